theorem dX8_put_41 : decode cX8_put 41 = .ok (.iload_n 1, 1) := by decide +kernel
theorem dX8_put_42 : decode cX8_put 42 = .ok (.iload_n 3, 1) := by decide +kernel
theorem dX8_put_43 : decode cX8_put 43 = .ok (.invokevirtual 262, 3) := by decide +kernel
theorem dX8_put_46 : decode cX8_put 46 = .ok (.istore 4, 2) := by decide +kernel
theorem dX8_put_48 : decode cX8_put 48 = .ok (.iconst 0, 1) := by decide +kernel
theorem dX8_put_49 : decode cX8_put 49 = .ok (.istore 5, 2) := by decide +kernel
theorem dX8_put_51 : decode cX8_put 51 = .ok (.iload 5, 2) := by decide +kernel
theorem dX8_put_53 : decode cX8_put 53 = .ok (.aload_n 0, 1) := by decide +kernel
theorem dX8_put_54 : decode cX8_put 54 = .ok (.getfield 205, 3) := by decide +kernel
theorem dX8_put_57 : decode cX8_put 57 = .ok (.if_icmp .ge 31, 3) := by decide +kernel
theorem dX8_put_60 : decode cX8_put 60 = .ok (.iload 4, 2) := by decide +kernel
theorem dX8_put_62 : decode cX8_put 62 = .ok (.iload 5, 2) := by decide +kernel
theorem dX8_put_64 : decode cX8_put 64 = .ok (.ishr, 1) := by decide +kernel
theorem dX8_put_65 : decode cX8_put 65 = .ok (.iconst 1, 1) := by decide +kernel
theorem dX8_put_66 : decode cX8_put 66 = .ok (.iand, 1) := by decide +kernel
theorem dX8_put_67 : decode cX8_put 67 = .ok (.iconst 1, 1) := by decide +kernel
theorem dX8_put_68 : decode cX8_put 68 = .ok (.if_icmp .ne 14, 3) := by decide +kernel
theorem dX8_put_71 : decode cX8_put 71 = .ok (.aload_n 0, 1) := by decide +kernel
theorem dX8_put_72 : decode cX8_put 72 = .ok (.getfield 23, 3) := by decide +kernel
theorem dX8_put_75 : decode cX8_put 75 = .ok (.iload 5, 2) := by decide +kernel
theorem dX8_put_77 : decode cX8_put 77 = .ok (.aaload, 1) := by decide +kernel
theorem dX8_put_78 : decode cX8_put 78 = .ok (.iconst 0, 1) := by decide +kernel
theorem dX8_put_79 : decode cX8_put 79 = .ok (.putfield 244, 3) := by decide +kernel
theorem dX8_put_82 : decode cX8_put 82 = .ok (.iinc 5 1, 3) := by decide +kernel
theorem dX8_put_85 : decode cX8_put 85 = .ok (.goto (-34), 3) := by decide +kernel
theorem dX8_put_88 : decode cX8_put 88 = .ok (.aload_n 0, 1) := by decide +kernel
theorem dX8_put_89 : decode cX8_put 89 = .ok (.getfield 42, 3) := by decide +kernel
theorem dX8_put_92 : decode cX8_put 92 = .ok (.iload_n 1, 1) := by decide +kernel
theorem dX8_put_93 : decode cX8_put 93 = .ok (.iload_n 3, 1) := by decide +kernel
theorem dX8_put_94 : decode cX8_put 94 = .ok (.iastore, 1) := by decide +kernel
theorem dX8_put_95 : decode cX8_put 95 = .ok (.iconst 1, 1) := by decide +kernel
theorem dX8_put_96 : decode cX8_put 96 = .ok (.ireturn, 1) := by decide +kernel
theorem dX8_best_0 : decode cX8_best 0 = .ok (.iload_n 1, 1) := by decide +kernel
theorem dX8_best_1 : decode cX8_best 1 = .ok (.invokestatic 151, 3) := by decide +kernel
theorem dX8_best_4 : decode cX8_best 4 = .ok (.ifCond .eq 28, 3) := by decide +kernel
theorem dX8_best_7 : decode cX8_best 7 = .ok (.iload_n 1, 1) := by decide +kernel
theorem dX8_best_8 : decode cX8_best 8 = .ok (.invokestatic 265, 3) := by decide +kernel
theorem dX8_best_11 : decode cX8_best 11 = .ok (.bipush 9, 2) := by decide +kernel
theorem dX8_best_13 : decode cX8_best 13 = .ok (.if_icmp .gt 19, 3) := by decide +kernel
theorem dX8_best_16 : decode cX8_best 16 = .ok (.iload_n 2, 1) := by decide +kernel
theorem dX8_best_17 : decode cX8_best 17 = .ok (.invokestatic 90, 3) := by decide +kernel
theorem dX8_best_20 : decode cX8_best 20 = .ok (.ifCond .eq 12, 3) := by decide +kernel
theorem dX8_best_23 : decode cX8_best 23 = .ok (.iload_n 3, 1) := by decide +kernel
theorem dX8_best_24 : decode cX8_best 24 = .ok (.ifCond .lt 8, 3) := by decide +kernel
theorem dX8_best_27 : decode cX8_best 27 = .ok (.iload_n 3, 1) := by decide +kernel
theorem dX8_best_28 : decode cX8_best 28 = .ok (.iconst 2, 1) := by decide +kernel
theorem dX8_best_29 : decode cX8_best 29 = .ok (.if_icmp .le 6, 3) := by decide +kernel
theorem dX8_best_32 : decode cX8_best 32 = .ok (.bipush (-2), 2) := by decide +kernel
theorem dX8_best_34 : decode cX8_best 34 = .ok (.ireturn, 1) := by decide +kernel
theorem dX8_best_35 : decode cX8_best 35 = .ok (.aload_n 0, 1) := by decide +kernel
theorem dX8_best_36 : decode cX8_best 36 = .ok (.iload_n 1, 1) := by decide +kernel
theorem dX8_best_37 : decode cX8_best 37 = .ok (.aload_n 0, 1) := by decide +kernel
theorem dX8_best_38 : decode cX8_best 38 = .ok (.getfield 11, 3) := by decide +kernel
theorem dX8_best_41 : decode cX8_best 41 = .ok (.iload_n 2, 1) := by decide +kernel
theorem dX8_best_42 : decode cX8_best 42 = .ok (.aaload, 1) := by decide +kernel
theorem dX8_best_43 : decode cX8_best 43 = .ok (.getfield 108, 3) := by decide +kernel
theorem dX8_best_46 : decode cX8_best 46 = .ok (.invokevirtual 270, 3) := by decide +kernel
theorem dX8_best_49 : decode cX8_best 49 = .ok (.iload_n 3, 1) := by decide +kernel
theorem dX8_best_50 : decode cX8_best 50 = .ok (.ifCond .ne 11, 3) := by decide +kernel
theorem dX8_best_53 : decode cX8_best 53 = .ok (.aload_n 0, 1) := by decide +kernel
theorem dX8_best_54 : decode cX8_best 54 = .ok (.getfield 65, 3) := by decide +kernel
theorem dX8_best_57 : decode cX8_best 57 = .ok (.getfield 274, 3) := by decide +kernel
theorem dX8_best_60 : decode cX8_best 60 = .ok (.ireturn, 1) := by decide +kernel
theorem dX8_best_61 : decode cX8_best 61 = .ok (.iload_n 3, 1) := by decide +kernel
theorem dX8_best_62 : decode cX8_best 62 = .ok (.iconst 1, 1) := by decide +kernel
theorem dX8_best_63 : decode cX8_best 63 = .ok (.if_icmp .ne 13, 3) := by decide +kernel
theorem dX8_best_66 : decode cX8_best 66 = .ok (.aload_n 0, 1) := by decide +kernel
theorem dX8_best_67 : decode cX8_best 67 = .ok (.getfield 65, 3) := by decide +kernel
theorem dX8_best_70 : decode cX8_best 70 = .ok (.getfield 277, 3) := by decide +kernel
theorem dX8_best_73 : decode cX8_best 73 = .ok (.goto 10, 3) := by decide +kernel
theorem dX8_best_76 : decode cX8_best 76 = .ok (.aload_n 0, 1) := by decide +kernel
theorem dX8_best_77 : decode cX8_best 77 = .ok (.getfield 65, 3) := by decide +kernel
theorem dX8_best_80 : decode cX8_best 80 = .ok (.getfield 280, 3) := by decide +kernel
theorem dX8_best_83 : decode cX8_best 83 = .ok (.ireturn, 1) := by decide +kernel
theorem dX8_way_0 : decode cX8_way 0 = .ok (.aload_n 0, 1) := by decide +kernel
theorem dX8_way_1 : decode cX8_way 1 = .ok (.iload_n 1, 1) := by decide +kernel
theorem dX8_way_2 : decode cX8_way 2 = .ok (.iload_n 2, 1) := by decide +kernel
theorem dX8_way_3 : decode cX8_way 3 = .ok (.invokevirtual 217, 3) := by decide +kernel
theorem dX8_way_6 : decode cX8_way 6 = .ok (.ifCond .eq 10, 3) := by decide +kernel
theorem dX8_way_9 : decode cX8_way 9 = .ok (.iload_n 3, 1) := by decide +kernel
theorem dX8_way_10 : decode cX8_way 10 = .ok (.invokestatic 283, 3) := by decide +kernel
theorem dX8_way_13 : decode cX8_way 13 = .ok (.ifCond .ne 6, 3) := by decide +kernel
theorem dX8_way_16 : decode cX8_way 16 = .ok (.bipush (-2), 2) := by decide +kernel
theorem dX8_way_18 : decode cX8_way 18 = .ok (.ireturn, 1) := by decide +kernel
theorem dX8_way_19 : decode cX8_way 19 = .ok (.aload_n 0, 1) := by decide +kernel
theorem dX8_way_20 : decode cX8_way 20 = .ok (.getfield 72, 3) := by decide +kernel
theorem dX8_way_23 : decode cX8_way 23 = .ok (.iload_n 1, 1) := by decide +kernel
theorem dX8_way_24 : decode cX8_way 24 = .ok (.iload_n 2, 1) := by decide +kernel
theorem dX8_way_25 : decode cX8_way 25 = .ok (.iload_n 3, 1) := by decide +kernel
theorem dX8_way_26 : decode cX8_way 26 = .ok (.invokevirtual 286, 3) := by decide +kernel
theorem dX8_way_29 : decode cX8_way 29 = .ok (.ireturn, 1) := by decide +kernel
theorem dX8_draws_0 : decode cX8_draws 0 = .ok (.aload_n 0, 1) := by decide +kernel
theorem dX8_draws_1 : decode cX8_draws 1 = .ok (.iload_n 1, 1) := by decide +kernel
theorem dX8_draws_2 : decode cX8_draws 2 = .ok (.invokevirtual 290, 3) := by decide +kernel
theorem dX8_draws_5 : decode cX8_draws 5 = .ok (.ifCond .eq 10, 3) := by decide +kernel
theorem dX8_draws_8 : decode cX8_draws 8 = .ok (.iload_n 2, 1) := by decide +kernel
theorem dX8_draws_9 : decode cX8_draws 9 = .ok (.invokestatic 283, 3) := by decide +kernel
theorem dX8_draws_12 : decode cX8_draws 12 = .ok (.ifCond .ne 6, 3) := by decide +kernel
theorem dX8_draws_15 : decode cX8_draws 15 = .ok (.bipush (-2), 2) := by decide +kernel
theorem dX8_draws_17 : decode cX8_draws 17 = .ok (.ireturn, 1) := by decide +kernel
theorem dX8_draws_18 : decode cX8_draws 18 = .ok (.aload_n 0, 1) := by decide +kernel
theorem dX8_draws_19 : decode cX8_draws 19 = .ok (.getfield 72, 3) := by decide +kernel
theorem dX8_draws_22 : decode cX8_draws 22 = .ok (.iload_n 1, 1) := by decide +kernel
theorem dX8_draws_23 : decode cX8_draws 23 = .ok (.iload_n 2, 1) := by decide +kernel
theorem dX8_draws_24 : decode cX8_draws 24 = .ok (.invokevirtual 293, 3) := by decide +kernel
theorem dX8_draws_27 : decode cX8_draws 27 = .ok (.ireturn, 1) := by decide +kernel
theorem dX8_mate_0 : decode cX8_mate 0 = .ok (.aload_n 0, 1) := by decide +kernel
theorem dX8_mate_1 : decode cX8_mate 1 = .ok (.iload_n 1, 1) := by decide +kernel
theorem dX8_mate_2 : decode cX8_mate 2 = .ok (.invokevirtual 290, 3) := by decide +kernel
theorem dX8_mate_5 : decode cX8_mate 5 = .ok (.ifCond .eq 26, 3) := by decide +kernel
theorem dX8_mate_8 : decode cX8_mate 8 = .ok (.iload_n 2, 1) := by decide +kernel
theorem dX8_mate_9 : decode cX8_mate 9 = .ok (.invokestatic 283, 3) := by decide +kernel
theorem dX8_mate_12 : decode cX8_mate 12 = .ok (.ifCond .eq 19, 3) := by decide +kernel
theorem dX8_mate_15 : decode cX8_mate 15 = .ok (.aload_n 0, 1) := by decide +kernel
theorem dX8_mate_16 : decode cX8_mate 16 = .ok (.iload_n 3, 1) := by decide +kernel
theorem dX8_mate_17 : decode cX8_mate 17 = .ok (.invokevirtual 214, 3) := by decide +kernel
theorem dX8_mate_20 : decode cX8_mate 20 = .ok (.ifCond .eq 11, 3) := by decide +kernel
theorem dX8_mate_23 : decode cX8_mate 23 = .ok (.iload_n 1, 1) := by decide +kernel
theorem dX8_mate_24 : decode cX8_mate 24 = .ok (.iload_n 3, 1) := by decide +kernel
theorem dX8_mate_25 : decode cX8_mate 25 = .ok (.ishr, 1) := by decide +kernel
theorem dX8_mate_26 : decode cX8_mate 26 = .ok (.iconst 1, 1) := by decide +kernel
theorem dX8_mate_27 : decode cX8_mate 27 = .ok (.iand, 1) := by decide +kernel
theorem dX8_mate_28 : decode cX8_mate 28 = .ok (.ifCond .ne 6, 3) := by decide +kernel
theorem dX8_mate_31 : decode cX8_mate 31 = .ok (.bipush (-2), 2) := by decide +kernel
theorem dX8_mate_33 : decode cX8_mate 33 = .ok (.ireturn, 1) := by decide +kernel
theorem dX8_mate_34 : decode cX8_mate 34 = .ok (.aload_n 0, 1) := by decide +kernel
theorem dX8_mate_35 : decode cX8_mate 35 = .ok (.getfield 72, 3) := by decide +kernel
theorem dX8_mate_38 : decode cX8_mate 38 = .ok (.iload_n 1, 1) := by decide +kernel
theorem dX8_mate_39 : decode cX8_mate 39 = .ok (.iload_n 2, 1) := by decide +kernel
theorem dX8_mate_40 : decode cX8_mate 40 = .ok (.invokevirtual 296, 3) := by decide +kernel
theorem dX8_mate_43 : decode cX8_mate 43 = .ok (.iconst (-1), 1) := by decide +kernel
theorem dX8_mate_44 : decode cX8_mate 44 = .ok (.if_icmp .ne 6, 3) := by decide +kernel
theorem dX8_mate_47 : decode cX8_mate 47 = .ok (.bipush (-3), 2) := by decide +kernel
theorem dX8_mate_49 : decode cX8_mate 49 = .ok (.ireturn, 1) := by decide +kernel
theorem dX8_mate_50 : decode cX8_mate 50 = .ok (.aload_n 0, 1) := by decide +kernel
theorem dX8_mate_51 : decode cX8_mate 51 = .ok (.getfield 72, 3) := by decide +kernel
theorem dX8_mate_54 : decode cX8_mate 54 = .ok (.iload_n 3, 1) := by decide +kernel
theorem dX8_mate_55 : decode cX8_mate 55 = .ok (.iload_n 1, 1) := by decide +kernel
theorem dX8_mate_56 : decode cX8_mate 56 = .ok (.iload_n 2, 1) := by decide +kernel
theorem dX8_mate_57 : decode cX8_mate 57 = .ok (.invokevirtual 299, 3) := by decide +kernel
theorem dX8_mate_60 : decode cX8_mate 60 = .ok (.ireturn, 1) := by decide +kernel
theorem dX8_cup_0 : decode cX8_cup 0 = .ok (.aload_n 0, 1) := by decide +kernel
theorem dX8_cup_1 : decode cX8_cup 1 = .ok (.iload_n 1, 1) := by decide +kernel
theorem dX8_cup_2 : decode cX8_cup 2 = .ok (.invokevirtual 290, 3) := by decide +kernel
theorem dX8_cup_5 : decode cX8_cup 5 = .ok (.ifCond .eq 10, 3) := by decide +kernel
theorem dX8_cup_8 : decode cX8_cup 8 = .ok (.iload_n 2, 1) := by decide +kernel
theorem dX8_cup_9 : decode cX8_cup 9 = .ok (.invokestatic 283, 3) := by decide +kernel
theorem dX8_cup_12 : decode cX8_cup 12 = .ok (.ifCond .ne 6, 3) := by decide +kernel
theorem dX8_cup_15 : decode cX8_cup 15 = .ok (.bipush (-2), 2) := by decide +kernel
theorem dX8_cup_17 : decode cX8_cup 17 = .ok (.ireturn, 1) := by decide +kernel
theorem dX8_cup_18 : decode cX8_cup 18 = .ok (.aload_n 0, 1) := by decide +kernel
theorem dX8_cup_19 : decode cX8_cup 19 = .ok (.getfield 72, 3) := by decide +kernel
theorem dX8_cup_22 : decode cX8_cup 22 = .ok (.iload_n 1, 1) := by decide +kernel
theorem dX8_cup_23 : decode cX8_cup 23 = .ok (.iload_n 2, 1) := by decide +kernel
theorem dX8_cup_24 : decode cX8_cup 24 = .ok (.invokevirtual 296, 3) := by decide +kernel
theorem dX8_cup_27 : decode cX8_cup 27 = .ok (.istore_n 3, 1) := by decide +kernel
theorem dX8_cup_28 : decode cX8_cup 28 = .ok (.iload_n 3, 1) := by decide +kernel
theorem dX8_cup_29 : decode cX8_cup 29 = .ok (.iconst (-1), 1) := by decide +kernel
theorem dX8_cup_30 : decode cX8_cup 30 = .ok (.if_icmp .ne 8, 3) := by decide +kernel
theorem dX8_cup_33 : decode cX8_cup 33 = .ok (.bipush (-3), 2) := by decide +kernel
theorem dX8_cup_35 : decode cX8_cup 35 = .ok (.goto 4, 3) := by decide +kernel
theorem dX8_cup_38 : decode cX8_cup 38 = .ok (.iload_n 3, 1) := by decide +kernel
theorem dX8_cup_39 : decode cX8_cup 39 = .ok (.ireturn, 1) := by decide +kernel
theorem dX8_sheet_0 : decode cX8_sheet 0 = .ok (.iload_n 1, 1) := by decide +kernel
theorem dX8_sheet_1 : decode cX8_sheet 1 = .ok (.invokestatic 124, 3) := by decide +kernel
theorem dX8_sheet_4 : decode cX8_sheet 4 = .ok (.ifCond .eq 16, 3) := by decide +kernel
theorem dX8_sheet_7 : decode cX8_sheet 7 = .ok (.iload_n 2, 1) := by decide +kernel
theorem dX8_sheet_8 : decode cX8_sheet 8 = .ok (.invokestatic 302, 3) := by decide +kernel
theorem dX8_sheet_11 : decode cX8_sheet 11 = .ok (.ifCond .eq 9, 3) := by decide +kernel
theorem dX8_sheet_14 : decode cX8_sheet 14 = .ok (.iload_n 3, 1) := by decide +kernel
theorem dX8_sheet_15 : decode cX8_sheet 15 = .ok (.bipush 60, 2) := by decide +kernel
theorem dX8_sheet_17 : decode cX8_sheet 17 = .ok (.if_icmp .le 6, 3) := by decide +kernel
theorem dX8_sheet_20 : decode cX8_sheet 20 = .ok (.bipush (-2), 2) := by decide +kernel
theorem dX8_sheet_22 : decode cX8_sheet 22 = .ok (.ireturn, 1) := by decide +kernel
theorem dX8_sheet_23 : decode cX8_sheet 23 = .ok (.iload_n 3, 1) := by decide +kernel
theorem dX8_sheet_24 : decode cX8_sheet 24 = .ok (.ifCond .ge 9, 3) := by decide +kernel
theorem dX8_sheet_27 : decode cX8_sheet 27 = .ok (.aload_n 0, 1) := by decide +kernel
theorem dX8_sheet_28 : decode cX8_sheet 28 = .ok (.iconst 5, 1) := by decide +kernel
theorem dX8_sheet_29 : decode cX8_sheet 29 = .ok (.invokevirtual 131, 3) := by decide +kernel
theorem dX8_sheet_32 : decode cX8_sheet 32 = .ok (.ireturn, 1) := by decide +kernel
theorem dX8_sheet_33 : decode cX8_sheet 33 = .ok (.aload_n 0, 1) := by decide +kernel
theorem dX8_sheet_34 : decode cX8_sheet 34 = .ok (.getfield 29, 3) := by decide +kernel
theorem dX8_sheet_37 : decode cX8_sheet 37 = .ok (.iload_n 1, 1) := by decide +kernel
theorem dX8_sheet_38 : decode cX8_sheet 38 = .ok (.aaload, 1) := by decide +kernel
theorem dX8_sheet_39 : decode cX8_sheet 39 = .ok (.iload_n 2, 1) := by decide +kernel
theorem dX8_sheet_40 : decode cX8_sheet 40 = .ok (.iload_n 3, 1) := by decide +kernel
theorem dX8_sheet_41 : decode cX8_sheet 41 = .ok (.invokevirtual 305, 3) := by decide +kernel
theorem dX8_sheet_44 : decode cX8_sheet 44 = .ok (.iload_n 3, 1) := by decide +kernel
theorem dX8_sheet_45 : decode cX8_sheet 45 = .ok (.ireturn, 1) := by decide +kernel
theorem dX8_lose_0 : decode cX8_lose 0 = .ok (.iload_n 1, 1) := by decide +kernel
theorem dX8_lose_1 : decode cX8_lose 1 = .ok (.invokestatic 124, 3) := by decide +kernel
theorem dX8_lose_4 : decode cX8_lose 4 = .ok (.ifCond .ne 6, 3) := by decide +kernel
theorem dX8_lose_7 : decode cX8_lose 7 = .ok (.bipush (-2), 2) := by decide +kernel
theorem dX8_lose_9 : decode cX8_lose 9 = .ok (.ireturn, 1) := by decide +kernel
theorem dX8_lose_10 : decode cX8_lose 10 = .ok (.aload_n 0, 1) := by decide +kernel
theorem dX8_lose_11 : decode cX8_lose 11 = .ok (.getfield 29, 3) := by decide +kernel
theorem dX8_lose_14 : decode cX8_lose 14 = .ok (.iload_n 1, 1) := by decide +kernel
theorem dX8_lose_15 : decode cX8_lose 15 = .ok (.aaload, 1) := by decide +kernel
theorem dX8_lose_16 : decode cX8_lose 16 = .ok (.getfield 127, 3) := by decide +kernel
theorem dX8_lose_19 : decode cX8_lose 19 = .ok (.ifCond .eq 9, 3) := by decide +kernel
theorem dX8_lose_22 : decode cX8_lose 22 = .ok (.aload_n 0, 1) := by decide +kernel
theorem dX8_lose_23 : decode cX8_lose 23 = .ok (.iconst 1, 1) := by decide +kernel
theorem dX8_lose_24 : decode cX8_lose 24 = .ok (.invokevirtual 131, 3) := by decide +kernel
theorem dX8_lose_27 : decode cX8_lose 27 = .ok (.ireturn, 1) := by decide +kernel
theorem dX8_lose_28 : decode cX8_lose 28 = .ok (.aload_n 0, 1) := by decide +kernel
theorem dX8_lose_29 : decode cX8_lose 29 = .ok (.getfield 29, 3) := by decide +kernel
theorem dX8_lose_32 : decode cX8_lose 32 = .ok (.iload_n 1, 1) := by decide +kernel
theorem dX8_lose_33 : decode cX8_lose 33 = .ok (.aaload, 1) := by decide +kernel
theorem dX8_lose_34 : decode cX8_lose 34 = .ok (.iconst 1, 1) := by decide +kernel
theorem dX8_lose_35 : decode cX8_lose 35 = .ok (.putfield 127, 3) := by decide +kernel
theorem dX8_lose_38 : decode cX8_lose 38 = .ok (.aload_n 0, 1) := by decide +kernel
theorem dX8_lose_39 : decode cX8_lose 39 = .ok (.getfield 29, 3) := by decide +kernel
theorem dX8_lose_42 : decode cX8_lose 42 = .ok (.iload_n 1, 1) := by decide +kernel
theorem dX8_lose_43 : decode cX8_lose 43 = .ok (.aaload, 1) := by decide +kernel
theorem dX8_lose_44 : decode cX8_lose 44 = .ok (.getfield 134, 3) := by decide +kernel
theorem dX8_lose_47 : decode cX8_lose 47 = .ok (.ireturn, 1) := by decide +kernel
theorem dX8_lay_0 : decode cX8_lay 0 = .ok (.iload_n 1, 1) := by decide +kernel
theorem dX8_lay_1 : decode cX8_lay 1 = .ok (.invokestatic 124, 3) := by decide +kernel
theorem dX8_lay_4 : decode cX8_lay 4 = .ok (.ifCond .eq 10, 3) := by decide +kernel
theorem dX8_lay_7 : decode cX8_lay 7 = .ok (.iload_n 2, 1) := by decide +kernel
theorem dX8_lay_8 : decode cX8_lay 8 = .ok (.invokestatic 302, 3) := by decide +kernel
theorem dX8_lay_11 : decode cX8_lay 11 = .ok (.ifCond .ne 6, 3) := by decide +kernel
theorem dX8_lay_14 : decode cX8_lay 14 = .ok (.bipush (-2), 2) := by decide +kernel
theorem dX8_lay_16 : decode cX8_lay 16 = .ok (.ireturn, 1) := by decide +kernel
theorem dX8_lay_17 : decode cX8_lay 17 = .ok (.aload_n 0, 1) := by decide +kernel
theorem dX8_lay_18 : decode cX8_lay 18 = .ok (.getfield 29, 3) := by decide +kernel
theorem dX8_lay_21 : decode cX8_lay 21 = .ok (.iload_n 1, 1) := by decide +kernel
theorem dX8_lay_22 : decode cX8_lay 22 = .ok (.aaload, 1) := by decide +kernel
theorem dX8_lay_23 : decode cX8_lay 23 = .ok (.iload_n 2, 1) := by decide +kernel
theorem dX8_lay_24 : decode cX8_lay 24 = .ok (.iload_n 3, 1) := by decide +kernel
theorem dX8_lay_25 : decode cX8_lay 25 = .ok (.invokestatic 309, 3) := by decide +kernel
theorem dX8_lay_28 : decode cX8_lay 28 = .ok (.istore 5, 2) := by decide +kernel
theorem dX8_lay_30 : decode cX8_lay 30 = .ok (.iload 5, 2) := by decide +kernel
theorem dX8_lay_32 : decode cX8_lay 32 = .ok (.ifCond .eq 10, 3) := by decide +kernel
theorem dX8_lay_35 : decode cX8_lay 35 = .ok (.aload_n 0, 1) := by decide +kernel
theorem dX8_lay_36 : decode cX8_lay 36 = .ok (.iload 5, 2) := by decide +kernel
theorem dX8_lay_38 : decode cX8_lay 38 = .ok (.invokevirtual 131, 3) := by decide +kernel
theorem dX8_lay_41 : decode cX8_lay 41 = .ok (.ireturn, 1) := by decide +kernel
theorem dX8_lay_42 : decode cX8_lay 42 = .ok (.aload_n 0, 1) := by decide +kernel
theorem dX8_lay_43 : decode cX8_lay 43 = .ok (.getfield 29, 3) := by decide +kernel
theorem dX8_lay_46 : decode cX8_lay 46 = .ok (.iload_n 1, 1) := by decide +kernel
theorem dX8_lay_47 : decode cX8_lay 47 = .ok (.aaload, 1) := by decide +kernel
theorem dX8_lay_48 : decode cX8_lay 48 = .ok (.iload_n 3, 1) := by decide +kernel
theorem dX8_lay_49 : decode cX8_lay 49 = .ok (.iload 4, 2) := by decide +kernel
theorem dX8_lay_51 : decode cX8_lay 51 = .ok (.invokevirtual 313, 3) := by decide +kernel
theorem dX8_lay_54 : decode cX8_lay 54 = .ok (.iconst 1, 1) := by decide +kernel
theorem dX8_lay_55 : decode cX8_lay 55 = .ok (.ireturn, 1) := by decide +kernel
theorem dX8_get_0 : decode cX8_get 0 = .ok (.iload_n 1, 1) := by decide +kernel
theorem dX8_get_1 : decode cX8_get 1 = .ok (.invokestatic 124, 3) := by decide +kernel
theorem dX8_get_4 : decode cX8_get 4 = .ok (.ifCond .eq 10, 3) := by decide +kernel
theorem dX8_get_7 : decode cX8_get 7 = .ok (.iload_n 2, 1) := by decide +kernel
theorem dX8_get_8 : decode cX8_get 8 = .ok (.invokestatic 302, 3) := by decide +kernel
theorem dX8_get_11 : decode cX8_get 11 = .ok (.ifCond .ne 7, 3) := by decide +kernel
theorem dX8_get_14 : decode cX8_get 14 = .ok (.ldc_w 316, 3) := by decide +kernel
theorem dX8_get_17 : decode cX8_get 17 = .ok (.ireturn, 1) := by decide +kernel
theorem dX8_get_18 : decode cX8_get 18 = .ok (.aload_n 0, 1) := by decide +kernel
theorem dX8_get_19 : decode cX8_get 19 = .ok (.getfield 29, 3) := by decide +kernel
theorem dX8_get_22 : decode cX8_get 22 = .ok (.iload_n 1, 1) := by decide +kernel
theorem dX8_get_23 : decode cX8_get 23 = .ok (.aaload, 1) := by decide +kernel
theorem dX8_get_24 : decode cX8_get 24 = .ok (.iload_n 2, 1) := by decide +kernel
theorem dX8_get_25 : decode cX8_get 25 = .ok (.iload_n 3, 1) := by decide +kernel
theorem dX8_get_26 : decode cX8_get 26 = .ok (.invokestatic 309, 3) := by decide +kernel
theorem dX8_get_29 : decode cX8_get 29 = .ok (.istore 4, 2) := by decide +kernel
theorem dX8_get_31 : decode cX8_get 31 = .ok (.iload 4, 2) := by decide +kernel
theorem dX8_get_33 : decode cX8_get 33 = .ok (.ifCond .eq 13, 3) := by decide +kernel
theorem dX8_get_36 : decode cX8_get 36 = .ok (.aload_n 0, 1) := by decide +kernel
theorem dX8_get_37 : decode cX8_get 37 = .ok (.iload 4, 2) := by decide +kernel
theorem dX8_get_39 : decode cX8_get 39 = .ok (.putfield 317, 3) := by decide +kernel
theorem dX8_get_42 : decode cX8_get 42 = .ok (.ldc_w 316, 3) := by decide +kernel
theorem dX8_get_45 : decode cX8_get 45 = .ok (.ireturn, 1) := by decide +kernel
theorem dX8_get_46 : decode cX8_get 46 = .ok (.aload_n 0, 1) := by decide +kernel
theorem dX8_get_47 : decode cX8_get 47 = .ok (.getfield 29, 3) := by decide +kernel
theorem dX8_get_50 : decode cX8_get 50 = .ok (.iload_n 1, 1) := by decide +kernel
theorem dX8_get_51 : decode cX8_get 51 = .ok (.aaload, 1) := by decide +kernel
theorem dX8_get_52 : decode cX8_get 52 = .ok (.getfield 320, 3) := by decide +kernel
theorem dX8_get_55 : decode cX8_get 55 = .ok (.iload_n 3, 1) := by decide +kernel
theorem dX8_get_56 : decode cX8_get 56 = .ok (.iaload, 1) := by decide +kernel
theorem dX8_get_57 : decode cX8_get 57 = .ok (.ireturn, 1) := by decide +kernel
theorem dX8_copy_0 : decode cX8_copy 0 = .ok (.iload_n 1, 1) := by decide +kernel
theorem dX8_copy_1 : decode cX8_copy 1 = .ok (.invokestatic 124, 3) := by decide +kernel
theorem dX8_copy_4 : decode cX8_copy 4 = .ok (.ifCond .eq 10, 3) := by decide +kernel
theorem dX8_copy_7 : decode cX8_copy 7 = .ok (.iload_n 3, 1) := by decide +kernel
theorem dX8_copy_8 : decode cX8_copy 8 = .ok (.invokestatic 124, 3) := by decide +kernel
theorem dX8_copy_11 : decode cX8_copy 11 = .ok (.ifCond .ne 6, 3) := by decide +kernel
theorem dX8_copy_14 : decode cX8_copy 14 = .ok (.bipush (-2), 2) := by decide +kernel
theorem dX8_copy_16 : decode cX8_copy 16 = .ok (.ireturn, 1) := by decide +kernel
theorem dX8_copy_17 : decode cX8_copy 17 = .ok (.aload_n 0, 1) := by decide +kernel
theorem dX8_copy_18 : decode cX8_copy 18 = .ok (.getfield 29, 3) := by decide +kernel
theorem dX8_copy_21 : decode cX8_copy 21 = .ok (.iload_n 1, 1) := by decide +kernel
theorem dX8_copy_22 : decode cX8_copy 22 = .ok (.aaload, 1) := by decide +kernel
theorem dX8_copy_23 : decode cX8_copy 23 = .ok (.getfield 127, 3) := by decide +kernel
theorem dX8_copy_26 : decode cX8_copy 26 = .ok (.ifCond .ne 15, 3) := by decide +kernel
theorem dX8_copy_29 : decode cX8_copy 29 = .ok (.aload_n 0, 1) := by decide +kernel
theorem dX8_copy_30 : decode cX8_copy 30 = .ok (.getfield 29, 3) := by decide +kernel
theorem dX8_copy_33 : decode cX8_copy 33 = .ok (.iload_n 3, 1) := by decide +kernel
theorem dX8_copy_34 : decode cX8_copy 34 = .ok (.aaload, 1) := by decide +kernel
theorem dX8_copy_35 : decode cX8_copy 35 = .ok (.getfield 127, 3) := by decide +kernel
theorem dX8_copy_38 : decode cX8_copy 38 = .ok (.ifCond .eq 9, 3) := by decide +kernel
theorem dX8_copy_41 : decode cX8_copy 41 = .ok (.aload_n 0, 1) := by decide +kernel
theorem dX8_copy_42 : decode cX8_copy 42 = .ok (.iconst 1, 1) := by decide +kernel
theorem dX8_copy_43 : decode cX8_copy 43 = .ok (.invokevirtual 131, 3) := by decide +kernel
theorem dX8_copy_46 : decode cX8_copy 46 = .ok (.ireturn, 1) := by decide +kernel
theorem dX8_copy_47 : decode cX8_copy 47 = .ok (.aload_n 0, 1) := by decide +kernel
theorem dX8_copy_48 : decode cX8_copy 48 = .ok (.getfield 29, 3) := by decide +kernel
theorem dX8_copy_51 : decode cX8_copy 51 = .ok (.iload_n 1, 1) := by decide +kernel
theorem dX8_copy_52 : decode cX8_copy 52 = .ok (.aaload, 1) := by decide +kernel
theorem dX8_copy_53 : decode cX8_copy 53 = .ok (.getfield 321, 3) := by decide +kernel
theorem dX8_copy_56 : decode cX8_copy 56 = .ok (.aload_n 0, 1) := by decide +kernel
theorem dX8_copy_57 : decode cX8_copy 57 = .ok (.getfield 29, 3) := by decide +kernel
theorem dX8_copy_60 : decode cX8_copy 60 = .ok (.iload_n 3, 1) := by decide +kernel
theorem dX8_copy_61 : decode cX8_copy 61 = .ok (.aaload, 1) := by decide +kernel
theorem dX8_copy_62 : decode cX8_copy 62 = .ok (.getfield 321, 3) := by decide +kernel
theorem dX8_copy_65 : decode cX8_copy 65 = .ok (.if_icmp .eq 9, 3) := by decide +kernel
theorem dX8_copy_68 : decode cX8_copy 68 = .ok (.aload_n 0, 1) := by decide +kernel
theorem dX8_copy_69 : decode cX8_copy 69 = .ok (.iconst 4, 1) := by decide +kernel
theorem dX8_copy_70 : decode cX8_copy 70 = .ok (.invokevirtual 131, 3) := by decide +kernel
theorem dX8_copy_73 : decode cX8_copy 73 = .ok (.ireturn, 1) := by decide +kernel
theorem dX8_copy_74 : decode cX8_copy 74 = .ok (.aload_n 0, 1) := by decide +kernel
theorem dX8_copy_75 : decode cX8_copy 75 = .ok (.getfield 29, 3) := by decide +kernel
theorem dX8_copy_78 : decode cX8_copy 78 = .ok (.iload_n 1, 1) := by decide +kernel
theorem dX8_copy_79 : decode cX8_copy 79 = .ok (.aaload, 1) := by decide +kernel
theorem dX8_copy_80 : decode cX8_copy 80 = .ok (.iload_n 2, 1) := by decide +kernel
theorem dX8_copy_81 : decode cX8_copy 81 = .ok (.iload 5, 2) := by decide +kernel
theorem dX8_copy_83 : decode cX8_copy 83 = .ok (.invokevirtual 324, 3) := by decide +kernel
theorem dX8_copy_86 : decode cX8_copy 86 = .ok (.ifCond .eq 19, 3) := by decide +kernel
theorem dX8_copy_89 : decode cX8_copy 89 = .ok (.aload_n 0, 1) := by decide +kernel
theorem dX8_copy_90 : decode cX8_copy 90 = .ok (.getfield 29, 3) := by decide +kernel
theorem dX8_copy_93 : decode cX8_copy 93 = .ok (.iload_n 3, 1) := by decide +kernel
theorem dX8_copy_94 : decode cX8_copy 94 = .ok (.aaload, 1) := by decide +kernel
theorem dX8_copy_95 : decode cX8_copy 95 = .ok (.iload 4, 2) := by decide +kernel
theorem dX8_copy_97 : decode cX8_copy 97 = .ok (.iload 5, 2) := by decide +kernel
theorem dX8_copy_99 : decode cX8_copy 99 = .ok (.invokevirtual 324, 3) := by decide +kernel
theorem dX8_copy_102 : decode cX8_copy 102 = .ok (.ifCond .ne 9, 3) := by decide +kernel
theorem dX8_copy_105 : decode cX8_copy 105 = .ok (.aload_n 0, 1) := by decide +kernel
theorem dX8_copy_106 : decode cX8_copy 106 = .ok (.iconst 2, 1) := by decide +kernel
theorem dX8_copy_107 : decode cX8_copy 107 = .ok (.invokevirtual 131, 3) := by decide +kernel
theorem dX8_copy_110 : decode cX8_copy 110 = .ok (.ireturn, 1) := by decide +kernel
theorem dX8_copy_111 : decode cX8_copy 111 = .ok (.aload_n 0, 1) := by decide +kernel
theorem dX8_copy_112 : decode cX8_copy 112 = .ok (.getfield 29, 3) := by decide +kernel
theorem dX8_copy_115 : decode cX8_copy 115 = .ok (.iload_n 1, 1) := by decide +kernel
theorem dX8_copy_116 : decode cX8_copy 116 = .ok (.aaload, 1) := by decide +kernel
theorem dX8_copy_117 : decode cX8_copy 117 = .ok (.getfield 320, 3) := by decide +kernel
theorem dX8_copy_120 : decode cX8_copy 120 = .ok (.iload_n 2, 1) := by decide +kernel
theorem dX8_copy_121 : decode cX8_copy 121 = .ok (.aload_n 0, 1) := by decide +kernel
theorem dX8_copy_122 : decode cX8_copy 122 = .ok (.getfield 29, 3) := by decide +kernel
theorem dX8_copy_125 : decode cX8_copy 125 = .ok (.iload_n 3, 1) := by decide +kernel
theorem dX8_copy_126 : decode cX8_copy 126 = .ok (.aaload, 1) := by decide +kernel
theorem dX8_copy_127 : decode cX8_copy 127 = .ok (.getfield 320, 3) := by decide +kernel
theorem dX8_copy_130 : decode cX8_copy 130 = .ok (.iload 4, 2) := by decide +kernel
theorem dX8_copy_132 : decode cX8_copy 132 = .ok (.iload 5, 2) := by decide +kernel
theorem dX8_copy_134 : decode cX8_copy 134 = .ok (.invokestatic 247, 3) := by decide +kernel
theorem dX8_copy_137 : decode cX8_copy 137 = .ok (.iconst 1, 1) := by decide +kernel
theorem dX8_copy_138 : decode cX8_copy 138 = .ok (.ireturn, 1) := by decide +kernel
theorem dX8_write_0 : decode cX8_write 0 = .ok (.iload_n 1, 1) := by decide +kernel
theorem dX8_write_1 : decode cX8_write 1 = .ok (.invokestatic 90, 3) := by decide +kernel
theorem dX8_write_4 : decode cX8_write 4 = .ok (.ifCond .eq 17, 3) := by decide +kernel
theorem dX8_write_7 : decode cX8_write 7 = .ok (.iload_n 2, 1) := by decide +kernel
theorem dX8_write_8 : decode cX8_write 8 = .ok (.invokestatic 90, 3) := by decide +kernel
theorem dX8_write_11 : decode cX8_write 11 = .ok (.ifCond .eq 10, 3) := by decide +kernel
theorem dX8_write_14 : decode cX8_write 14 = .ok (.iload_n 3, 1) := by decide +kernel
theorem dX8_write_15 : decode cX8_write 15 = .ok (.invokestatic 124, 3) := by decide +kernel
theorem dX8_write_18 : decode cX8_write 18 = .ok (.ifCond .ne 6, 3) := by decide +kernel
theorem dX8_write_21 : decode cX8_write 21 = .ok (.bipush (-2), 2) := by decide +kernel
theorem dX8_write_23 : decode cX8_write 23 = .ok (.ireturn, 1) := by decide +kernel
theorem dX8_write_24 : decode cX8_write 24 = .ok (.aload_n 0, 1) := by decide +kernel
theorem dX8_write_25 : decode cX8_write 25 = .ok (.getfield 29, 3) := by decide +kernel
theorem dX8_write_28 : decode cX8_write 28 = .ok (.iload_n 3, 1) := by decide +kernel
theorem dX8_write_29 : decode cX8_write 29 = .ok (.aaload, 1) := by decide +kernel
theorem dX8_write_30 : decode cX8_write 30 = .ok (.getfield 127, 3) := by decide +kernel
theorem dX8_write_33 : decode cX8_write 33 = .ok (.ifCond .eq 9, 3) := by decide +kernel
theorem dX8_write_36 : decode cX8_write 36 = .ok (.aload_n 0, 1) := by decide +kernel
theorem dX8_write_37 : decode cX8_write 37 = .ok (.iconst 1, 1) := by decide +kernel
theorem dX8_write_38 : decode cX8_write 38 = .ok (.invokevirtual 131, 3) := by decide +kernel
theorem dX8_write_41 : decode cX8_write 41 = .ok (.ireturn, 1) := by decide +kernel
theorem dX8_write_42 : decode cX8_write 42 = .ok (.aload_n 0, 1) := by decide +kernel
theorem dX8_write_43 : decode cX8_write 43 = .ok (.getfield 58, 3) := by decide +kernel
theorem dX8_write_46 : decode cX8_write 46 = .ok (.aload_n 0, 1) := by decide +kernel
theorem dX8_write_47 : decode cX8_write 47 = .ok (.getfield 11, 3) := by decide +kernel
theorem dX8_write_50 : decode cX8_write 50 = .ok (.iload_n 1, 1) := by decide +kernel
theorem dX8_write_51 : decode cX8_write 51 = .ok (.aaload, 1) := by decide +kernel
theorem dX8_write_52 : decode cX8_write 52 = .ok (.getfield 108, 3) := by decide +kernel
theorem dX8_write_55 : decode cX8_write 55 = .ok (.aload_n 0, 1) := by decide +kernel
theorem dX8_write_56 : decode cX8_write 56 = .ok (.getfield 11, 3) := by decide +kernel
theorem dX8_write_59 : decode cX8_write 59 = .ok (.iload_n 2, 1) := by decide +kernel
theorem dX8_write_60 : decode cX8_write 60 = .ok (.aaload, 1) := by decide +kernel
theorem dX8_write_61 : decode cX8_write 61 = .ok (.getfield 108, 3) := by decide +kernel
theorem dX8_write_64 : decode cX8_write 64 = .ok (.invokevirtual 191, 3) := by decide +kernel
theorem dX8_write_67 : decode cX8_write 67 = .ok (.aload_n 0, 1) := by decide +kernel
theorem dX8_write_68 : decode cX8_write 68 = .ok (.getfield 58, 3) := by decide +kernel
theorem dX8_write_71 : decode cX8_write 71 = .ok (.getfield 195, 3) := by decide +kernel
theorem dX8_write_74 : decode cX8_write 74 = .ok (.aload_n 0, 1) := by decide +kernel
theorem dX8_write_75 : decode cX8_write 75 = .ok (.getfield 29, 3) := by decide +kernel
theorem dX8_write_78 : decode cX8_write 78 = .ok (.iload_n 3, 1) := by decide +kernel
theorem dX8_write_79 : decode cX8_write 79 = .ok (.aaload, 1) := by decide +kernel
theorem dX8_write_80 : decode cX8_write 80 = .ok (.getfield 134, 3) := by decide +kernel
theorem dX8_write_83 : decode cX8_write 83 = .ok (.invokestatic 228, 3) := by decide +kernel
theorem dX8_write_86 : decode cX8_write 86 = .ok (.istore 4, 2) := by decide +kernel
theorem dX8_write_88 : decode cX8_write 88 = .ok (.iconst 0, 1) := by decide +kernel
theorem dX8_write_89 : decode cX8_write 89 = .ok (.istore 5, 2) := by decide +kernel
theorem dX8_write_91 : decode cX8_write 91 = .ok (.iload 5, 2) := by decide +kernel
theorem dX8_write_93 : decode cX8_write 93 = .ok (.iload 4, 2) := by decide +kernel
theorem dX8_write_95 : decode cX8_write 95 = .ok (.if_icmp .ge 30, 3) := by decide +kernel
theorem dX8_write_98 : decode cX8_write 98 = .ok (.aload_n 0, 1) := by decide +kernel
theorem dX8_write_99 : decode cX8_write 99 = .ok (.getfield 29, 3) := by decide +kernel
theorem dX8_write_102 : decode cX8_write 102 = .ok (.iload_n 3, 1) := by decide +kernel
theorem dX8_write_103 : decode cX8_write 103 = .ok (.aaload, 1) := by decide +kernel
theorem dX8_write_104 : decode cX8_write 104 = .ok (.iload 5, 2) := by decide +kernel
theorem dX8_write_106 : decode cX8_write 106 = .ok (.aload_n 0, 1) := by decide +kernel
theorem dX8_write_107 : decode cX8_write 107 = .ok (.getfield 58, 3) := by decide +kernel
theorem dX8_write_110 : decode cX8_write 110 = .ok (.getfield 198, 3) := by decide +kernel
theorem dX8_write_113 : decode cX8_write 113 = .ok (.iload 5, 2) := by decide +kernel
theorem dX8_write_115 : decode cX8_write 115 = .ok (.iaload, 1) := by decide +kernel
theorem dX8_write_116 : decode cX8_write 116 = .ok (.invokevirtual 313, 3) := by decide +kernel
theorem dX8_write_119 : decode cX8_write 119 = .ok (.iinc 5 1, 3) := by decide +kernel
theorem dX8_write_122 : decode cX8_write 122 = .ok (.goto (-31), 3) := by decide +kernel
theorem dX8_write_125 : decode cX8_write 125 = .ok (.iload 4, 2) := by decide +kernel
theorem dX8_write_127 : decode cX8_write 127 = .ok (.ireturn, 1) := by decide +kernel
theorem dX8_count_0 : decode cX8_count 0 = .ok (.iload_n 1, 1) := by decide +kernel
theorem dX8_count_1 : decode cX8_count 1 = .ok (.tableswitch 96 0 8 #[51, 56, 61, 66, 71, 76, 81, 86, 91], 51) := by decide +kernel
theorem dX8_count_52 : decode cX8_count 52 = .ok (.aload_n 0, 1) := by decide +kernel
theorem dX8_count_53 : decode cX8_count 53 = .ok (.getfield 137, 3) := by decide +kernel
theorem dX8_count_56 : decode cX8_count 56 = .ok (.ireturn, 1) := by decide +kernel
theorem dX8_count_57 : decode cX8_count 57 = .ok (.aload_n 0, 1) := by decide +kernel
theorem dX8_count_58 : decode cX8_count 58 = .ok (.invokevirtual 327, 3) := by decide +kernel
theorem dX8_count_61 : decode cX8_count 61 = .ok (.ireturn, 1) := by decide +kernel
theorem dX8_count_62 : decode cX8_count 62 = .ok (.aload_n 0, 1) := by decide +kernel
theorem dX8_count_63 : decode cX8_count 63 = .ok (.getfield 205, 3) := by decide +kernel
theorem dX8_count_66 : decode cX8_count 66 = .ok (.ireturn, 1) := by decide +kernel
theorem dX8_count_67 : decode cX8_count 67 = .ok (.aload_n 0, 1) := by decide +kernel
theorem dX8_count_68 : decode cX8_count 68 = .ok (.invokevirtual 330, 3) := by decide +kernel
theorem dX8_count_71 : decode cX8_count 71 = .ok (.ireturn, 1) := by decide +kernel
theorem dX8_count_72 : decode cX8_count 72 = .ok (.aload_n 0, 1) := by decide +kernel
theorem dX8_count_73 : decode cX8_count 73 = .ok (.invokevirtual 333, 3) := by decide +kernel
theorem dX8_count_76 : decode cX8_count 76 = .ok (.ireturn, 1) := by decide +kernel
theorem dX8_count_77 : decode cX8_count 77 = .ok (.aload_n 0, 1) := by decide +kernel
theorem dX8_count_78 : decode cX8_count 78 = .ok (.getfield 76, 3) := by decide +kernel
theorem dX8_count_81 : decode cX8_count 81 = .ok (.ireturn, 1) := by decide +kernel
theorem dX8_count_82 : decode cX8_count 82 = .ok (.aload_n 0, 1) := by decide +kernel
theorem dX8_count_83 : decode cX8_count 83 = .ok (.getfield 80, 3) := by decide +kernel
theorem dX8_count_86 : decode cX8_count 86 = .ok (.ireturn, 1) := by decide +kernel
theorem dX8_count_87 : decode cX8_count 87 = .ok (.aload_n 0, 1) := by decide +kernel
theorem dX8_count_88 : decode cX8_count 88 = .ok (.getfield 83, 3) := by decide +kernel
theorem dX8_count_91 : decode cX8_count 91 = .ok (.ireturn, 1) := by decide +kernel
theorem dX8_count_92 : decode cX8_count 92 = .ok (.aload_n 0, 1) := by decide +kernel
theorem dX8_count_93 : decode cX8_count 93 = .ok (.getfield 317, 3) := by decide +kernel
theorem dX8_count_96 : decode cX8_count 96 = .ok (.ireturn, 1) := by decide +kernel
theorem dX8_count_97 : decode cX8_count 97 = .ok (.bipush (-2), 2) := by decide +kernel
theorem dX8_count_99 : decode cX8_count 99 = .ok (.ireturn, 1) := by decide +kernel
theorem dX8_digest_0 : decode cX8_digest 0 = .ok (.ldc2_w 336, 3) := by decide +kernel
theorem dX8_digest_3 : decode cX8_digest 3 = .ok (.lstore_n 1, 1) := by decide +kernel
theorem dX8_digest_4 : decode cX8_digest 4 = .ok (.iconst 0, 1) := by decide +kernel
theorem dX8_digest_5 : decode cX8_digest 5 = .ok (.istore_n 3, 1) := by decide +kernel
theorem dX8_digest_6 : decode cX8_digest 6 = .ok (.iload_n 3, 1) := by decide +kernel
theorem dX8_digest_7 : decode cX8_digest 7 = .ok (.bipush 7, 2) := by decide +kernel
theorem dX8_digest_9 : decode cX8_digest 9 = .ok (.if_icmp .gt 22, 3) := by decide +kernel
theorem dX8_digest_12 : decode cX8_digest 12 = .ok (.ldc2_w 338, 3) := by decide +kernel
theorem dX8_digest_15 : decode cX8_digest 15 = .ok (.lload_n 1, 1) := by decide +kernel
theorem dX8_digest_16 : decode cX8_digest 16 = .ok (.lmul, 1) := by decide +kernel
theorem dX8_digest_17 : decode cX8_digest 17 = .ok (.aload_n 0, 1) := by decide +kernel
theorem dX8_digest_18 : decode cX8_digest 18 = .ok (.iload_n 3, 1) := by decide +kernel
theorem dX8_digest_19 : decode cX8_digest 19 = .ok (.invokevirtual 340, 3) := by decide +kernel
theorem dX8_digest_22 : decode cX8_digest 22 = .ok (.i2l, 1) := by decide +kernel
theorem dX8_digest_23 : decode cX8_digest 23 = .ok (.ladd, 1) := by decide +kernel
theorem dX8_digest_24 : decode cX8_digest 24 = .ok (.lstore_n 1, 1) := by decide +kernel
theorem dX8_digest_25 : decode cX8_digest 25 = .ok (.iinc 3 1, 3) := by decide +kernel
theorem dX8_digest_28 : decode cX8_digest 28 = .ok (.goto (-22), 3) := by decide +kernel
theorem dX8_digest_31 : decode cX8_digest 31 = .ok (.iconst 0, 1) := by decide +kernel
theorem dX8_digest_32 : decode cX8_digest 32 = .ok (.istore_n 3, 1) := by decide +kernel
theorem dX8_digest_33 : decode cX8_digest 33 = .ok (.iload_n 3, 1) := by decide +kernel
theorem dX8_digest_34 : decode cX8_digest 34 = .ok (.bipush 11, 2) := by decide +kernel
theorem dX8_digest_36 : decode cX8_digest 36 = .ok (.if_icmp .ge 26, 3) := by decide +kernel
theorem dX8_digest_39 : decode cX8_digest 39 = .ok (.ldc2_w 338, 3) := by decide +kernel
theorem dX8_digest_42 : decode cX8_digest 42 = .ok (.lload_n 1, 1) := by decide +kernel
theorem dX8_digest_43 : decode cX8_digest 43 = .ok (.lmul, 1) := by decide +kernel
theorem dX8_digest_44 : decode cX8_digest 44 = .ok (.aload_n 0, 1) := by decide +kernel
theorem dX8_digest_45 : decode cX8_digest 45 = .ok (.getfield 11, 3) := by decide +kernel
theorem dX8_digest_48 : decode cX8_digest 48 = .ok (.iload_n 3, 1) := by decide +kernel
theorem dX8_digest_49 : decode cX8_digest 49 = .ok (.aaload, 1) := by decide +kernel
theorem dX8_digest_50 : decode cX8_digest 50 = .ok (.getfield 102, 3) := by decide +kernel
theorem dX8_digest_53 : decode cX8_digest 53 = .ok (.i2l, 1) := by decide +kernel
theorem dX8_digest_54 : decode cX8_digest 54 = .ok (.ladd, 1) := by decide +kernel
theorem dX8_digest_55 : decode cX8_digest 55 = .ok (.lstore_n 1, 1) := by decide +kernel
theorem dX8_digest_56 : decode cX8_digest 56 = .ok (.iinc 3 1, 3) := by decide +kernel
theorem dX8_digest_59 : decode cX8_digest 59 = .ok (.goto (-26), 3) := by decide +kernel
theorem dX8_digest_62 : decode cX8_digest 62 = .ok (.iconst 0, 1) := by decide +kernel
theorem dX8_digest_63 : decode cX8_digest 63 = .ok (.istore_n 3, 1) := by decide +kernel
theorem dX8_digest_64 : decode cX8_digest 64 = .ok (.iload_n 3, 1) := by decide +kernel
theorem dX8_digest_65 : decode cX8_digest 65 = .ok (.aload_n 0, 1) := by decide +kernel
theorem dX8_digest_66 : decode cX8_digest 66 = .ok (.getfield 137, 3) := by decide +kernel
theorem dX8_digest_69 : decode cX8_digest 69 = .ok (.if_icmp .ge 63, 3) := by decide +kernel
theorem dX8_digest_72 : decode cX8_digest 72 = .ok (.aload_n 0, 1) := by decide +kernel
theorem dX8_digest_73 : decode cX8_digest 73 = .ok (.getfield 17, 3) := by decide +kernel
theorem dX8_digest_76 : decode cX8_digest 76 = .ok (.iload_n 3, 1) := by decide +kernel
theorem dX8_digest_77 : decode cX8_digest 77 = .ok (.aaload, 1) := by decide +kernel
theorem dX8_digest_78 : decode cX8_digest 78 = .ok (.aload_n 0, 1) := by decide +kernel
theorem dX8_digest_79 : decode cX8_digest 79 = .ok (.getfield 11, 3) := by decide +kernel
theorem dX8_digest_82 : decode cX8_digest 82 = .ok (.iconst 0, 1) := by decide +kernel
theorem dX8_digest_83 : decode cX8_digest 83 = .ok (.aaload, 1) := by decide +kernel
theorem dX8_digest_84 : decode cX8_digest 84 = .ok (.getfield 108, 3) := by decide +kernel
theorem dX8_digest_87 : decode cX8_digest 87 = .ok (.aload_n 0, 1) := by decide +kernel
theorem dX8_digest_88 : decode cX8_digest 88 = .ok (.getfield 51, 3) := by decide +kernel
theorem dX8_digest_91 : decode cX8_digest 91 = .ok (.invokevirtual 161, 3) := by decide +kernel
theorem dX8_digest_94 : decode cX8_digest 94 = .ok (.iconst 0, 1) := by decide +kernel
theorem dX8_digest_95 : decode cX8_digest 95 = .ok (.istore 4, 2) := by decide +kernel
theorem dX8_digest_97 : decode cX8_digest 97 = .ok (.iload 4, 2) := by decide +kernel
theorem dX8_digest_99 : decode cX8_digest 99 = .ok (.iconst 5, 1) := by decide +kernel
theorem dX8_digest_100 : decode cX8_digest 100 = .ok (.if_icmp .gt 26, 3) := by decide +kernel
theorem dX8_digest_103 : decode cX8_digest 103 = .ok (.ldc2_w 338, 3) := by decide +kernel
theorem dX8_digest_106 : decode cX8_digest 106 = .ok (.lload_n 1, 1) := by decide +kernel
theorem dX8_digest_107 : decode cX8_digest 107 = .ok (.lmul, 1) := by decide +kernel
theorem dX8_digest_108 : decode cX8_digest 108 = .ok (.aload_n 0, 1) := by decide +kernel
theorem dX8_digest_109 : decode cX8_digest 109 = .ok (.getfield 51, 3) := by decide +kernel
theorem dX8_digest_112 : decode cX8_digest 112 = .ok (.iload 4, 2) := by decide +kernel
theorem dX8_digest_114 : decode cX8_digest 114 = .ok (.invokevirtual 165, 3) := by decide +kernel
theorem dX8_digest_117 : decode cX8_digest 117 = .ok (.i2l, 1) := by decide +kernel
theorem dX8_digest_118 : decode cX8_digest 118 = .ok (.ladd, 1) := by decide +kernel
theorem dX8_digest_119 : decode cX8_digest 119 = .ok (.lstore_n 1, 1) := by decide +kernel
theorem dX8_digest_120 : decode cX8_digest 120 = .ok (.iinc 4 1, 3) := by decide +kernel
theorem dX8_digest_123 : decode cX8_digest 123 = .ok (.goto (-26), 3) := by decide +kernel
theorem dX8_digest_126 : decode cX8_digest 126 = .ok (.iinc 3 1, 3) := by decide +kernel
theorem dX8_digest_129 : decode cX8_digest 129 = .ok (.goto (-65), 3) := by decide +kernel
theorem dX8_digest_132 : decode cX8_digest 132 = .ok (.iconst 0, 1) := by decide +kernel
theorem dX8_digest_133 : decode cX8_digest 133 = .ok (.istore_n 3, 1) := by decide +kernel
theorem dX8_digest_134 : decode cX8_digest 134 = .ok (.iload_n 3, 1) := by decide +kernel
theorem dX8_digest_135 : decode cX8_digest 135 = .ok (.aload_n 0, 1) := by decide +kernel
theorem dX8_digest_136 : decode cX8_digest 136 = .ok (.getfield 205, 3) := by decide +kernel
theorem dX8_digest_139 : decode cX8_digest 139 = .ok (.if_icmp .ge 43, 3) := by decide +kernel
theorem dX8_digest_142 : decode cX8_digest 142 = .ok (.ldc2_w 338, 3) := by decide +kernel
theorem dX8_digest_145 : decode cX8_digest 145 = .ok (.lload_n 1, 1) := by decide +kernel
theorem dX8_digest_146 : decode cX8_digest 146 = .ok (.lmul, 1) := by decide +kernel
theorem dX8_digest_147 : decode cX8_digest 147 = .ok (.aload_n 0, 1) := by decide +kernel
theorem dX8_digest_148 : decode cX8_digest 148 = .ok (.getfield 23, 3) := by decide +kernel
theorem dX8_digest_151 : decode cX8_digest 151 = .ok (.iload_n 3, 1) := by decide +kernel
theorem dX8_digest_152 : decode cX8_digest 152 = .ok (.aaload, 1) := by decide +kernel
theorem dX8_digest_153 : decode cX8_digest 153 = .ok (.getfield 208, 3) := by decide +kernel
theorem dX8_digest_156 : decode cX8_digest 156 = .ok (.i2l, 1) := by decide +kernel
theorem dX8_digest_157 : decode cX8_digest 157 = .ok (.ladd, 1) := by decide +kernel
theorem dX8_digest_158 : decode cX8_digest 158 = .ok (.lstore_n 1, 1) := by decide +kernel
theorem dX8_digest_159 : decode cX8_digest 159 = .ok (.ldc2_w 338, 3) := by decide +kernel
theorem dX8_digest_162 : decode cX8_digest 162 = .ok (.lload_n 1, 1) := by decide +kernel
theorem dX8_digest_163 : decode cX8_digest 163 = .ok (.lmul, 1) := by decide +kernel
theorem dX8_digest_164 : decode cX8_digest 164 = .ok (.aload_n 0, 1) := by decide +kernel
theorem dX8_digest_165 : decode cX8_digest 165 = .ok (.getfield 23, 3) := by decide +kernel
theorem dX8_digest_168 : decode cX8_digest 168 = .ok (.iload_n 3, 1) := by decide +kernel
theorem dX8_digest_169 : decode cX8_digest 169 = .ok (.aaload, 1) := by decide +kernel
theorem dX8_digest_170 : decode cX8_digest 170 = .ok (.getfield 211, 3) := by decide +kernel
theorem dX8_digest_173 : decode cX8_digest 173 = .ok (.i2l, 1) := by decide +kernel
theorem dX8_digest_174 : decode cX8_digest 174 = .ok (.ladd, 1) := by decide +kernel
theorem dX8_digest_175 : decode cX8_digest 175 = .ok (.lstore_n 1, 1) := by decide +kernel
theorem dX8_digest_176 : decode cX8_digest 176 = .ok (.iinc 3 1, 3) := by decide +kernel
theorem dX8_digest_179 : decode cX8_digest 179 = .ok (.goto (-45), 3) := by decide +kernel
theorem dX8_digest_182 : decode cX8_digest 182 = .ok (.iconst 0, 1) := by decide +kernel
theorem dX8_digest_183 : decode cX8_digest 183 = .ok (.istore_n 3, 1) := by decide +kernel
theorem dX8_digest_184 : decode cX8_digest 184 = .ok (.iload_n 3, 1) := by decide +kernel
theorem dX8_digest_185 : decode cX8_digest 185 = .ok (.bipush 17, 2) := by decide +kernel
theorem dX8_digest_187 : decode cX8_digest 187 = .ok (.if_icmp .ge 23, 3) := by decide +kernel
theorem dX8_digest_190 : decode cX8_digest 190 = .ok (.ldc2_w 338, 3) := by decide +kernel
theorem dX8_digest_193 : decode cX8_digest 193 = .ok (.lload_n 1, 1) := by decide +kernel
theorem dX8_digest_194 : decode cX8_digest 194 = .ok (.lmul, 1) := by decide +kernel
theorem dX8_digest_195 : decode cX8_digest 195 = .ok (.aload_n 0, 1) := by decide +kernel
theorem dX8_digest_196 : decode cX8_digest 196 = .ok (.getfield 42, 3) := by decide +kernel
theorem dX8_digest_199 : decode cX8_digest 199 = .ok (.iload_n 3, 1) := by decide +kernel
theorem dX8_digest_200 : decode cX8_digest 200 = .ok (.iaload, 1) := by decide +kernel
theorem dX8_digest_201 : decode cX8_digest 201 = .ok (.i2l, 1) := by decide +kernel
theorem dX8_digest_202 : decode cX8_digest 202 = .ok (.ladd, 1) := by decide +kernel
theorem dX8_digest_203 : decode cX8_digest 203 = .ok (.lstore_n 1, 1) := by decide +kernel
theorem dX8_digest_204 : decode cX8_digest 204 = .ok (.iinc 3 1, 3) := by decide +kernel
theorem dX8_digest_207 : decode cX8_digest 207 = .ok (.goto (-23), 3) := by decide +kernel
theorem dX8_digest_210 : decode cX8_digest 210 = .ok (.ldc2_w 338, 3) := by decide +kernel
theorem dX8_digest_213 : decode cX8_digest 213 = .ok (.lload_n 1, 1) := by decide +kernel
theorem dX8_digest_214 : decode cX8_digest 214 = .ok (.lmul, 1) := by decide +kernel
theorem dX8_digest_215 : decode cX8_digest 215 = .ok (.aload_n 0, 1) := by decide +kernel
theorem dX8_digest_216 : decode cX8_digest 216 = .ok (.invokevirtual 343, 3) := by decide +kernel
theorem dX8_digest_219 : decode cX8_digest 219 = .ok (.i2l, 1) := by decide +kernel
theorem dX8_digest_220 : decode cX8_digest 220 = .ok (.ladd, 1) := by decide +kernel
theorem dX8_digest_221 : decode cX8_digest 221 = .ok (.lstore_n 1, 1) := by decide +kernel
theorem dX8_digest_222 : decode cX8_digest 222 = .ok (.ldc2_w 338, 3) := by decide +kernel
theorem dX8_digest_225 : decode cX8_digest 225 = .ok (.lload_n 1, 1) := by decide +kernel
theorem dX8_digest_226 : decode cX8_digest 226 = .ok (.lmul, 1) := by decide +kernel
theorem dX8_digest_227 : decode cX8_digest 227 = .ok (.aload_n 0, 1) := by decide +kernel
theorem dX8_digest_228 : decode cX8_digest 228 = .ok (.iconst 0, 1) := by decide +kernel
theorem dX8_digest_229 : decode cX8_digest 229 = .ok (.iconst 1, 1) := by decide +kernel
theorem dX8_digest_230 : decode cX8_digest 230 = .ok (.invokevirtual 346, 3) := by decide +kernel
theorem dX8_digest_233 : decode cX8_digest 233 = .ok (.i2l, 1) := by decide +kernel
theorem dX8_digest_234 : decode cX8_digest 234 = .ok (.ladd, 1) := by decide +kernel
theorem dX8_digest_235 : decode cX8_digest 235 = .ok (.lreturn, 1) := by decide +kernel
theorem dX8_isCode_0 : decode cX8_isCode 0 = .ok (.iload_n 0, 1) := by decide +kernel
theorem dX8_isCode_1 : decode cX8_isCode 1 = .ok (.ifCond .lt 13, 3) := by decide +kernel
theorem dX8_isCode_4 : decode cX8_isCode 4 = .ok (.iload_n 0, 1) := by decide +kernel
theorem dX8_isCode_5 : decode cX8_isCode 5 = .ok (.bipush 11, 2) := by decide +kernel
theorem dX8_isCode_7 : decode cX8_isCode 7 = .ok (.if_icmp .ge 7, 3) := by decide +kernel
theorem dX8_isCode_10 : decode cX8_isCode 10 = .ok (.iconst 1, 1) := by decide +kernel
theorem dX8_isCode_11 : decode cX8_isCode 11 = .ok (.goto 4, 3) := by decide +kernel
theorem dX8_isCode_14 : decode cX8_isCode 14 = .ok (.iconst 0, 1) := by decide +kernel
theorem dX8_isCode_15 : decode cX8_isCode 15 = .ok (.ireturn, 1) := by decide +kernel
theorem dX8_isItem_0 : decode cX8_isItem 0 = .ok (.iload_n 0, 1) := by decide +kernel
theorem dX8_isItem_1 : decode cX8_isItem 1 = .ok (.ifCond .lt 13, 3) := by decide +kernel
theorem dX8_isItem_4 : decode cX8_isItem 4 = .ok (.iload_n 0, 1) := by decide +kernel
theorem dX8_isItem_5 : decode cX8_isItem 5 = .ok (.bipush 17, 2) := by decide +kernel
theorem dX8_isItem_7 : decode cX8_isItem 7 = .ok (.if_icmp .ge 7, 3) := by decide +kernel
theorem dX8_isItem_10 : decode cX8_isItem 10 = .ok (.iconst 1, 1) := by decide +kernel
theorem dX8_isItem_11 : decode cX8_isItem 11 = .ok (.goto 4, 3) := by decide +kernel
theorem dX8_isItem_14 : decode cX8_isItem 14 = .ok (.iconst 0, 1) := by decide +kernel
theorem dX8_isItem_15 : decode cX8_isItem 15 = .ok (.ireturn, 1) := by decide +kernel
theorem dX8_isItemSet_0 : decode cX8_isItemSet 0 = .ok (.iload_n 0, 1) := by decide +kernel
theorem dX8_isItemSet_1 : decode cX8_isItemSet 1 = .ok (.ifCond .lt 14, 3) := by decide +kernel
theorem dX8_isItemSet_4 : decode cX8_isItemSet 4 = .ok (.iload_n 0, 1) := by decide +kernel
theorem dX8_isItemSet_5 : decode cX8_isItemSet 5 = .ok (.ldc_w 349, 3) := by decide +kernel
theorem dX8_isItemSet_8 : decode cX8_isItemSet 8 = .ok (.if_icmp .ge 7, 3) := by decide +kernel
theorem dX8_isItemSet_11 : decode cX8_isItemSet 11 = .ok (.iconst 1, 1) := by decide +kernel
theorem dX8_isItemSet_12 : decode cX8_isItemSet 12 = .ok (.goto 4, 3) := by decide +kernel
theorem dX8_isItemSet_15 : decode cX8_isItemSet 15 = .ok (.iconst 0, 1) := by decide +kernel
theorem dX8_isItemSet_16 : decode cX8_isItemSet 16 = .ok (.ireturn, 1) := by decide +kernel
theorem dX8_isAct_0 : decode cX8_isAct 0 = .ok (.iload_n 0, 1) := by decide +kernel
theorem dX8_isAct_1 : decode cX8_isAct 1 = .ok (.ifCond .lt 13, 3) := by decide +kernel
theorem dX8_isAct_4 : decode cX8_isAct 4 = .ok (.iload_n 0, 1) := by decide +kernel
theorem dX8_isAct_5 : decode cX8_isAct 5 = .ok (.bipush 10, 2) := by decide +kernel
theorem dX8_isAct_7 : decode cX8_isAct 7 = .ok (.if_icmp .ge 7, 3) := by decide +kernel
theorem dX8_isAct_10 : decode cX8_isAct 10 = .ok (.iconst 1, 1) := by decide +kernel
theorem dX8_isAct_11 : decode cX8_isAct 11 = .ok (.goto 4, 3) := by decide +kernel
theorem dX8_isAct_14 : decode cX8_isAct 14 = .ok (.iconst 0, 1) := by decide +kernel
theorem dX8_isAct_15 : decode cX8_isAct 15 = .ok (.ireturn, 1) := by decide +kernel
theorem dX8_isCell_0 : decode cX8_isCell 0 = .ok (.iload_n 0, 1) := by decide +kernel
theorem dX8_isCell_1 : decode cX8_isCell 1 = .ok (.ifCond .lt 13, 3) := by decide +kernel
theorem dX8_isCell_4 : decode cX8_isCell 4 = .ok (.iload_n 0, 1) := by decide +kernel
theorem dX8_isCell_5 : decode cX8_isCell 5 = .ok (.bipush 7, 2) := by decide +kernel
theorem dX8_isCell_7 : decode cX8_isCell 7 = .ok (.if_icmp .ge 7, 3) := by decide +kernel
theorem dX8_isCell_10 : decode cX8_isCell 10 = .ok (.iconst 1, 1) := by decide +kernel
theorem dX8_isCell_11 : decode cX8_isCell 11 = .ok (.goto 4, 3) := by decide +kernel
theorem dX8_isCell_14 : decode cX8_isCell 14 = .ok (.iconst 0, 1) := by decide +kernel
theorem dX8_isCell_15 : decode cX8_isCell 15 = .ok (.ireturn, 1) := by decide +kernel
theorem dX8_isPlayedWhat_0 : decode cX8_isPlayedWhat 0 = .ok (.iload_n 0, 1) := by decide +kernel
theorem dX8_isPlayedWhat_1 : decode cX8_isPlayedWhat 1 = .ok (.ifCond .lt 13, 3) := by decide +kernel
theorem dX8_isPlayedWhat_4 : decode cX8_isPlayedWhat 4 = .ok (.iload_n 0, 1) := by decide +kernel
theorem dX8_isPlayedWhat_5 : decode cX8_isPlayedWhat 5 = .ok (.bipush 9, 2) := by decide +kernel
theorem dX8_isPlayedWhat_7 : decode cX8_isPlayedWhat 7 = .ok (.if_icmp .ge 7, 3) := by decide +kernel
theorem dX8_isPlayedWhat_10 : decode cX8_isPlayedWhat 10 = .ok (.iconst 1, 1) := by decide +kernel
theorem dX8_isPlayedWhat_11 : decode cX8_isPlayedWhat 11 = .ok (.goto 4, 3) := by decide +kernel
theorem dX8_isPlayedWhat_14 : decode cX8_isPlayedWhat 14 = .ok (.iconst 0, 1) := by decide +kernel
theorem dX8_isPlayedWhat_15 : decode cX8_isPlayedWhat 15 = .ok (.ireturn, 1) := by decide +kernel
theorem dX8_isWay_0 : decode cX8_isWay 0 = .ok (.iload_n 0, 1) := by decide +kernel
theorem dX8_isWay_1 : decode cX8_isWay 1 = .ok (.ifCond .lt 13, 3) := by decide +kernel
theorem dX8_isWay_4 : decode cX8_isWay 4 = .ok (.iload_n 0, 1) := by decide +kernel
theorem dX8_isWay_5 : decode cX8_isWay 5 = .ok (.bipush 99, 2) := by decide +kernel
theorem dX8_isWay_7 : decode cX8_isWay 7 = .ok (.if_icmp .gt 7, 3) := by decide +kernel
theorem dX8_isWay_10 : decode cX8_isWay 10 = .ok (.iconst 1, 1) := by decide +kernel
theorem dX8_isWay_11 : decode cX8_isWay 11 = .ok (.goto 4, 3) := by decide +kernel
theorem dX8_isWay_14 : decode cX8_isWay 14 = .ok (.iconst 0, 1) := by decide +kernel
theorem dX8_isWay_15 : decode cX8_isWay 15 = .ok (.ireturn, 1) := by decide +kernel
theorem dX8_isSheet_0 : decode cX8_isSheet 0 = .ok (.iload_n 0, 1) := by decide +kernel
theorem dX8_isSheet_1 : decode cX8_isSheet 1 = .ok (.ifCond .lt 12, 3) := by decide +kernel
theorem dX8_isSheet_4 : decode cX8_isSheet 4 = .ok (.iload_n 0, 1) := by decide +kernel
theorem dX8_isSheet_5 : decode cX8_isSheet 5 = .ok (.iconst 4, 1) := by decide +kernel
theorem dX8_isSheet_6 : decode cX8_isSheet 6 = .ok (.if_icmp .ge 7, 3) := by decide +kernel
theorem dX8_isSheet_9 : decode cX8_isSheet 9 = .ok (.iconst 1, 1) := by decide +kernel
theorem dX8_isSheet_10 : decode cX8_isSheet 10 = .ok (.goto 4, 3) := by decide +kernel
theorem dX8_isSheet_13 : decode cX8_isSheet 13 = .ok (.iconst 0, 1) := by decide +kernel
theorem dX8_isSheet_14 : decode cX8_isSheet 14 = .ok (.ireturn, 1) := by decide +kernel
theorem dX8_isType_0 : decode cX8_isType 0 = .ok (.iload_n 0, 1) := by decide +kernel
theorem dX8_isType_1 : decode cX8_isType 1 = .ok (.ifCond .lt 12, 3) := by decide +kernel
theorem dX8_isType_4 : decode cX8_isType 4 = .ok (.iload_n 0, 1) := by decide +kernel
theorem dX8_isType_5 : decode cX8_isType 5 = .ok (.iconst 3, 1) := by decide +kernel
theorem dX8_isType_6 : decode cX8_isType 6 = .ok (.if_icmp .ge 7, 3) := by decide +kernel
theorem dX8_isType_9 : decode cX8_isType 9 = .ok (.iconst 1, 1) := by decide +kernel
theorem dX8_isType_10 : decode cX8_isType 10 = .ok (.goto 4, 3) := by decide +kernel
theorem dX8_isType_13 : decode cX8_isType 13 = .ok (.iconst 0, 1) := by decide +kernel
theorem dX8_isType_14 : decode cX8_isType 14 = .ok (.ireturn, 1) := by decide +kernel
theorem dX8_isMatch_0 : decode cX8_isMatch 0 = .ok (.iload_n 1, 1) := by decide +kernel
theorem dX8_isMatch_1 : decode cX8_isMatch 1 = .ok (.ifCond .lt 15, 3) := by decide +kernel
theorem dX8_isMatch_4 : decode cX8_isMatch 4 = .ok (.iload_n 1, 1) := by decide +kernel
theorem dX8_isMatch_5 : decode cX8_isMatch 5 = .ok (.aload_n 0, 1) := by decide +kernel
theorem dX8_isMatch_6 : decode cX8_isMatch 6 = .ok (.getfield 137, 3) := by decide +kernel
theorem dX8_isMatch_9 : decode cX8_isMatch 9 = .ok (.if_icmp .ge 7, 3) := by decide +kernel
theorem dX8_isMatch_12 : decode cX8_isMatch 12 = .ok (.iconst 1, 1) := by decide +kernel
theorem dX8_isMatch_13 : decode cX8_isMatch 13 = .ok (.goto 4, 3) := by decide +kernel
theorem dX8_isMatch_16 : decode cX8_isMatch 16 = .ok (.iconst 0, 1) := by decide +kernel
theorem dX8_isMatch_17 : decode cX8_isMatch 17 = .ok (.ireturn, 1) := by decide +kernel
theorem dX8_isClub_0 : decode cX8_isClub 0 = .ok (.iload_n 1, 1) := by decide +kernel
theorem dX8_isClub_1 : decode cX8_isClub 1 = .ok (.ifCond .lt 15, 3) := by decide +kernel
theorem dX8_isClub_4 : decode cX8_isClub 4 = .ok (.iload_n 1, 1) := by decide +kernel
theorem dX8_isClub_5 : decode cX8_isClub 5 = .ok (.aload_n 0, 1) := by decide +kernel
theorem dX8_isClub_6 : decode cX8_isClub 6 = .ok (.getfield 205, 3) := by decide +kernel
theorem dX8_isClub_9 : decode cX8_isClub 9 = .ok (.if_icmp .ge 7, 3) := by decide +kernel
theorem dX8_isClub_12 : decode cX8_isClub 12 = .ok (.iconst 1, 1) := by decide +kernel
theorem dX8_isClub_13 : decode cX8_isClub 13 = .ok (.goto 4, 3) := by decide +kernel
theorem dX8_isClub_16 : decode cX8_isClub 16 = .ok (.iconst 0, 1) := by decide +kernel
theorem dX8_isClub_17 : decode cX8_isClub 17 = .ok (.ireturn, 1) := by decide +kernel
theorem dX8_areTwoClubs_0 : decode cX8_areTwoClubs 0 = .ok (.aload_n 0, 1) := by decide +kernel
theorem dX8_areTwoClubs_1 : decode cX8_areTwoClubs 1 = .ok (.iload_n 1, 1) := by decide +kernel
theorem dX8_areTwoClubs_2 : decode cX8_areTwoClubs 2 = .ok (.invokevirtual 214, 3) := by decide +kernel
theorem dX8_areTwoClubs_5 : decode cX8_areTwoClubs 5 = .ok (.ifCond .eq 20, 3) := by decide +kernel
theorem dX8_areTwoClubs_8 : decode cX8_areTwoClubs 8 = .ok (.aload_n 0, 1) := by decide +kernel
theorem dX8_areTwoClubs_9 : decode cX8_areTwoClubs 9 = .ok (.iload_n 2, 1) := by decide +kernel
theorem dX8_areTwoClubs_10 : decode cX8_areTwoClubs 10 = .ok (.invokevirtual 214, 3) := by decide +kernel
theorem dX8_areTwoClubs_13 : decode cX8_areTwoClubs 13 = .ok (.ifCond .eq 12, 3) := by decide +kernel
theorem dX8_areTwoClubs_16 : decode cX8_areTwoClubs 16 = .ok (.iload_n 1, 1) := by decide +kernel
theorem dX8_areTwoClubs_17 : decode cX8_areTwoClubs 17 = .ok (.iload_n 2, 1) := by decide +kernel
theorem dX8_areTwoClubs_18 : decode cX8_areTwoClubs 18 = .ok (.if_icmp .eq 7, 3) := by decide +kernel
theorem dX8_areTwoClubs_21 : decode cX8_areTwoClubs 21 = .ok (.iconst 1, 1) := by decide +kernel
theorem dX8_areTwoClubs_22 : decode cX8_areTwoClubs 22 = .ok (.goto 4, 3) := by decide +kernel
theorem dX8_areTwoClubs_25 : decode cX8_areTwoClubs 25 = .ok (.iconst 0, 1) := by decide +kernel
theorem dX8_areTwoClubs_26 : decode cX8_areTwoClubs 26 = .ok (.ireturn, 1) := by decide +kernel
theorem dX8_isField_0 : decode cX8_isField 0 = .ok (.iload_n 1, 1) := by decide +kernel
theorem dX8_isField_1 : decode cX8_isField 1 = .ok (.ifCond .le 26, 3) := by decide +kernel
theorem dX8_isField_4 : decode cX8_isField 4 = .ok (.iload_n 1, 1) := by decide +kernel
theorem dX8_isField_5 : decode cX8_isField 5 = .ok (.iconst 1, 1) := by decide +kernel
theorem dX8_isField_6 : decode cX8_isField 6 = .ok (.aload_n 0, 1) := by decide +kernel
theorem dX8_isField_7 : decode cX8_isField 7 = .ok (.getfield 205, 3) := by decide +kernel
theorem dX8_isField_10 : decode cX8_isField 10 = .ok (.ishl, 1) := by decide +kernel
theorem dX8_isField_11 : decode cX8_isField 11 = .ok (.if_icmp .ge 16, 3) := by decide +kernel
theorem dX8_isField_14 : decode cX8_isField 14 = .ok (.iload_n 1, 1) := by decide +kernel
theorem dX8_isField_15 : decode cX8_isField 15 = .ok (.invokestatic 265, 3) := by decide +kernel
theorem dX8_isField_18 : decode cX8_isField 18 = .ok (.iconst 2, 1) := by decide +kernel
theorem dX8_isField_19 : decode cX8_isField 19 = .ok (.irem, 1) := by decide +kernel
theorem dX8_isField_20 : decode cX8_isField 20 = .ok (.ifCond .ne 7, 3) := by decide +kernel
theorem dX8_isField_23 : decode cX8_isField 23 = .ok (.iconst 1, 1) := by decide +kernel
theorem dX8_isField_24 : decode cX8_isField 24 = .ok (.goto 4, 3) := by decide +kernel
theorem dX8_isField_27 : decode cX8_isField 27 = .ok (.iconst 0, 1) := by decide +kernel
theorem dX8_isField_28 : decode cX8_isField 28 = .ok (.ireturn, 1) := by decide +kernel
theorem dX8_refuse_0 : decode cX8_refuse 0 = .ok (.aload_n 0, 1) := by decide +kernel
theorem dX8_refuse_1 : decode cX8_refuse 1 = .ok (.iload_n 1, 1) := by decide +kernel
theorem dX8_refuse_2 : decode cX8_refuse 2 = .ok (.putfield 317, 3) := by decide +kernel
theorem dX8_refuse_5 : decode cX8_refuse 5 = .ok (.bipush (-10), 2) := by decide +kernel
theorem dX8_refuse_7 : decode cX8_refuse 7 = .ok (.iload_n 1, 1) := by decide +kernel
theorem dX8_refuse_8 : decode cX8_refuse 8 = .ok (.isub, 1) := by decide +kernel
theorem dX8_refuse_9 : decode cX8_refuse 9 = .ok (.ireturn, 1) := by decide +kernel
theorem dX8_findingOf_0 : decode cX8_findingOf 0 = .ok (.aload_n 0, 1) := by decide +kernel
theorem dX8_findingOf_1 : decode cX8_findingOf 1 = .ok (.getfield 127, 3) := by decide +kernel
theorem dX8_findingOf_4 : decode cX8_findingOf 4 = .ok (.ifCond .eq 5, 3) := by decide +kernel
theorem dX8_findingOf_7 : decode cX8_findingOf 7 = .ok (.iconst 1, 1) := by decide +kernel
theorem dX8_findingOf_8 : decode cX8_findingOf 8 = .ok (.ireturn, 1) := by decide +kernel
theorem dX8_findingOf_9 : decode cX8_findingOf 9 = .ok (.aload_n 0, 1) := by decide +kernel
theorem dX8_findingOf_10 : decode cX8_findingOf 10 = .ok (.getfield 321, 3) := by decide +kernel
theorem dX8_findingOf_13 : decode cX8_findingOf 13 = .ok (.iload_n 1, 1) := by decide +kernel
theorem dX8_findingOf_14 : decode cX8_findingOf 14 = .ok (.if_icmp .eq 5, 3) := by decide +kernel
theorem dX8_findingOf_17 : decode cX8_findingOf 17 = .ok (.iconst 3, 1) := by decide +kernel
theorem dX8_findingOf_18 : decode cX8_findingOf 18 = .ok (.ireturn, 1) := by decide +kernel
theorem dX8_findingOf_19 : decode cX8_findingOf 19 = .ok (.aload_n 0, 1) := by decide +kernel
theorem dX8_findingOf_20 : decode cX8_findingOf 20 = .ok (.iload_n 2, 1) := by decide +kernel
theorem dX8_findingOf_21 : decode cX8_findingOf 21 = .ok (.invokevirtual 350, 3) := by decide +kernel
theorem dX8_findingOf_24 : decode cX8_findingOf 24 = .ok (.ifCond .eq 7, 3) := by decide +kernel
theorem dX8_findingOf_27 : decode cX8_findingOf 27 = .ok (.iconst 0, 1) := by decide +kernel
theorem dX8_findingOf_28 : decode cX8_findingOf 28 = .ok (.goto 4, 3) := by decide +kernel
theorem dX8_findingOf_31 : decode cX8_findingOf 31 = .ok (.iconst 2, 1) := by decide +kernel
theorem dX8_findingOf_32 : decode cX8_findingOf 32 = .ok (.ireturn, 1) := by decide +kernel
theorem dX8_unlike_0 : decode cX8_unlike 0 = .ok (.iconst 0, 1) := by decide +kernel
theorem dX8_unlike_1 : decode cX8_unlike 1 = .ok (.istore_n 2, 1) := by decide +kernel
theorem dX8_unlike_2 : decode cX8_unlike 2 = .ok (.iconst 0, 1) := by decide +kernel
theorem dX8_unlike_3 : decode cX8_unlike 3 = .ok (.istore_n 3, 1) := by decide +kernel
theorem dX8_unlike_4 : decode cX8_unlike 4 = .ok (.iload_n 3, 1) := by decide +kernel
theorem dX8_unlike_5 : decode cX8_unlike 5 = .ok (.bipush 17, 2) := by decide +kernel
theorem dX8_unlike_7 : decode cX8_unlike 7 = .ok (.if_icmp .ge 24, 3) := by decide +kernel
theorem dX8_unlike_10 : decode cX8_unlike 10 = .ok (.aload_n 0, 1) := by decide +kernel
theorem dX8_unlike_11 : decode cX8_unlike 11 = .ok (.iload_n 3, 1) := by decide +kernel
theorem dX8_unlike_12 : decode cX8_unlike 12 = .ok (.iaload, 1) := by decide +kernel
theorem dX8_unlike_13 : decode cX8_unlike 13 = .ok (.aload_n 1, 1) := by decide +kernel
theorem dX8_unlike_14 : decode cX8_unlike 14 = .ok (.iload_n 3, 1) := by decide +kernel
theorem dX8_unlike_15 : decode cX8_unlike 15 = .ok (.iaload, 1) := by decide +kernel
theorem dX8_unlike_16 : decode cX8_unlike 16 = .ok (.if_icmp .eq 9, 3) := by decide +kernel
theorem dX8_unlike_19 : decode cX8_unlike 19 = .ok (.iload_n 2, 1) := by decide +kernel
theorem dX8_unlike_20 : decode cX8_unlike 20 = .ok (.iconst 1, 1) := by decide +kernel
theorem dX8_unlike_21 : decode cX8_unlike 21 = .ok (.iload_n 3, 1) := by decide +kernel
theorem dX8_unlike_22 : decode cX8_unlike 22 = .ok (.ishl, 1) := by decide +kernel
theorem dX8_unlike_23 : decode cX8_unlike 23 = .ok (.ior, 1) := by decide +kernel
theorem dX8_unlike_24 : decode cX8_unlike 24 = .ok (.istore_n 2, 1) := by decide +kernel
theorem dX8_unlike_25 : decode cX8_unlike 25 = .ok (.iinc 3 1, 3) := by decide +kernel
theorem dX8_unlike_28 : decode cX8_unlike 28 = .ok (.goto (-24), 3) := by decide +kernel
theorem dX8_unlike_31 : decode cX8_unlike 31 = .ok (.iload_n 2, 1) := by decide +kernel
theorem dX8_unlike_32 : decode cX8_unlike 32 = .ok (.ireturn, 1) := by decide +kernel
theorem dX8_mix_0 : decode cX8_mix 0 = .ok (.iconst 0, 1) := by decide +kernel
theorem dX8_mix_1 : decode cX8_mix 1 = .ok (.istore 4, 2) := by decide +kernel
theorem dX8_mix_3 : decode cX8_mix 3 = .ok (.iload 4, 2) := by decide +kernel
theorem dX8_mix_5 : decode cX8_mix 5 = .ok (.bipush 17, 2) := by decide +kernel
theorem dX8_mix_7 : decode cX8_mix 7 = .ok (.if_icmp .ge 37, 3) := by decide +kernel
theorem dX8_mix_10 : decode cX8_mix 10 = .ok (.aload_n 0, 1) := by decide +kernel
theorem dX8_mix_11 : decode cX8_mix 11 = .ok (.getfield 45, 3) := by decide +kernel
theorem dX8_mix_14 : decode cX8_mix 14 = .ok (.iload 4, 2) := by decide +kernel
theorem dX8_mix_16 : decode cX8_mix 16 = .ok (.iload_n 3, 1) := by decide +kernel
theorem dX8_mix_17 : decode cX8_mix 17 = .ok (.iload 4, 2) := by decide +kernel
theorem dX8_mix_19 : decode cX8_mix 19 = .ok (.ishr, 1) := by decide +kernel
theorem dX8_mix_20 : decode cX8_mix 20 = .ok (.iconst 1, 1) := by decide +kernel
theorem dX8_mix_21 : decode cX8_mix 21 = .ok (.iand, 1) := by decide +kernel
theorem dX8_mix_22 : decode cX8_mix 22 = .ok (.iconst 1, 1) := by decide +kernel
theorem dX8_mix_23 : decode cX8_mix 23 = .ok (.if_icmp .ne 10, 3) := by decide +kernel
theorem dX8_mix_26 : decode cX8_mix 26 = .ok (.aload_n 2, 1) := by decide +kernel
theorem dX8_mix_27 : decode cX8_mix 27 = .ok (.iload 4, 2) := by decide +kernel
theorem dX8_mix_29 : decode cX8_mix 29 = .ok (.iaload, 1) := by decide +kernel
theorem dX8_mix_30 : decode cX8_mix 30 = .ok (.goto 7, 3) := by decide +kernel
theorem dX8_mix_33 : decode cX8_mix 33 = .ok (.aload_n 1, 1) := by decide +kernel
theorem dX8_mix_34 : decode cX8_mix 34 = .ok (.iload 4, 2) := by decide +kernel
theorem dX8_mix_36 : decode cX8_mix 36 = .ok (.iaload, 1) := by decide +kernel
theorem dX8_mix_37 : decode cX8_mix 37 = .ok (.iastore, 1) := by decide +kernel
theorem dX8_mix_38 : decode cX8_mix 38 = .ok (.iinc 4 1, 3) := by decide +kernel
theorem dX8_mix_41 : decode cX8_mix 41 = .ok (.goto (-38), 3) := by decide +kernel
theorem dX8_mix_44 : decode cX8_mix 44 = .ok (.return_, 1) := by decide +kernel
theorem dX8_fitsAllTold_0 : decode cX8_fitsAllTold 0 = .ok (.iconst 0, 1) := by decide +kernel
theorem dX8_fitsAllTold_1 : decode cX8_fitsAllTold 1 = .ok (.istore_n 2, 1) := by decide +kernel
theorem dX8_fitsAllTold_2 : decode cX8_fitsAllTold 2 = .ok (.iload_n 2, 1) := by decide +kernel
theorem dX8_fitsAllTold_3 : decode cX8_fitsAllTold 3 = .ok (.aload_n 0, 1) := by decide +kernel
theorem dX8_fitsAllTold_4 : decode cX8_fitsAllTold 4 = .ok (.getfield 137, 3) := by decide +kernel
theorem dX8_fitsAllTold_7 : decode cX8_fitsAllTold 7 = .ok (.if_icmp .ge 40, 3) := by decide +kernel
theorem dX8_fitsAllTold_10 : decode cX8_fitsAllTold 10 = .ok (.aload_n 0, 1) := by decide +kernel
theorem dX8_fitsAllTold_11 : decode cX8_fitsAllTold 11 = .ok (.getfield 17, 3) := by decide +kernel
theorem dX8_fitsAllTold_14 : decode cX8_fitsAllTold 14 = .ok (.iload_n 2, 1) := by decide +kernel
theorem dX8_fitsAllTold_15 : decode cX8_fitsAllTold 15 = .ok (.aaload, 1) := by decide +kernel
theorem dX8_fitsAllTold_16 : decode cX8_fitsAllTold 16 = .ok (.getfield 180, 3) := by decide +kernel
theorem dX8_fitsAllTold_19 : decode cX8_fitsAllTold 19 = .ok (.ifCond .eq 22, 3) := by decide +kernel
theorem dX8_fitsAllTold_22 : decode cX8_fitsAllTold 22 = .ok (.aload_n 0, 1) := by decide +kernel
theorem dX8_fitsAllTold_23 : decode cX8_fitsAllTold 23 = .ok (.getfield 17, 3) := by decide +kernel
theorem dX8_fitsAllTold_26 : decode cX8_fitsAllTold 26 = .ok (.iload_n 2, 1) := by decide +kernel
theorem dX8_fitsAllTold_27 : decode cX8_fitsAllTold 27 = .ok (.aaload, 1) := by decide +kernel
theorem dX8_fitsAllTold_28 : decode cX8_fitsAllTold 28 = .ok (.aload_n 1, 1) := by decide +kernel
theorem dX8_fitsAllTold_29 : decode cX8_fitsAllTold 29 = .ok (.aload_n 0, 1) := by decide +kernel
theorem dX8_fitsAllTold_30 : decode cX8_fitsAllTold 30 = .ok (.getfield 51, 3) := by decide +kernel
theorem dX8_fitsAllTold_33 : decode cX8_fitsAllTold 33 = .ok (.invokevirtual 183, 3) := by decide +kernel
theorem dX8_fitsAllTold_36 : decode cX8_fitsAllTold 36 = .ok (.ifCond .ne 5, 3) := by decide +kernel
theorem dX8_fitsAllTold_39 : decode cX8_fitsAllTold 39 = .ok (.iconst 0, 1) := by decide +kernel
theorem dX8_fitsAllTold_40 : decode cX8_fitsAllTold 40 = .ok (.ireturn, 1) := by decide +kernel
theorem dX8_fitsAllTold_41 : decode cX8_fitsAllTold 41 = .ok (.iinc 2 1, 3) := by decide +kernel
theorem dX8_fitsAllTold_44 : decode cX8_fitsAllTold 44 = .ok (.goto (-42), 3) := by decide +kernel
theorem dX8_fitsAllTold_47 : decode cX8_fitsAllTold 47 = .ok (.iconst 1, 1) := by decide +kernel
theorem dX8_fitsAllTold_48 : decode cX8_fitsAllTold 48 = .ok (.ireturn, 1) := by decide +kernel
theorem dX8_itemsOf_0 : decode cX8_itemsOf 0 = .ok (.aload_n 0, 1) := by decide +kernel
theorem dX8_itemsOf_1 : decode cX8_itemsOf 1 = .ok (.getfield 11, 3) := by decide +kernel
theorem dX8_itemsOf_4 : decode cX8_itemsOf 4 = .ok (.aload_n 0, 1) := by decide +kernel
theorem dX8_itemsOf_5 : decode cX8_itemsOf 5 = .ok (.getfield 23, 3) := by decide +kernel
theorem dX8_itemsOf_8 : decode cX8_itemsOf 8 = .ok (.iload_n 1, 1) := by decide +kernel
theorem dX8_itemsOf_9 : decode cX8_itemsOf 9 = .ok (.aaload, 1) := by decide +kernel
theorem dX8_itemsOf_10 : decode cX8_itemsOf 10 = .ok (.getfield 208, 3) := by decide +kernel
theorem dX8_itemsOf_13 : decode cX8_itemsOf 13 = .ok (.aaload, 1) := by decide +kernel
theorem dX8_itemsOf_14 : decode cX8_itemsOf 14 = .ok (.getfield 108, 3) := by decide +kernel
theorem dX8_itemsOf_17 : decode cX8_itemsOf 17 = .ok (.areturn, 1) := by decide +kernel
theorem dX8_atOdds_0 : decode cX8_atOdds 0 = .ok (.aload_n 0, 1) := by decide +kernel
theorem dX8_atOdds_1 : decode cX8_atOdds 1 = .ok (.iload_n 1, 1) := by decide +kernel
theorem dX8_atOdds_2 : decode cX8_atOdds 2 = .ok (.invokevirtual 236, 3) := by decide +kernel
theorem dX8_atOdds_5 : decode cX8_atOdds 5 = .ok (.aload_n 0, 1) := by decide +kernel
theorem dX8_atOdds_6 : decode cX8_atOdds 6 = .ok (.iload_n 2, 1) := by decide +kernel
theorem dX8_atOdds_7 : decode cX8_atOdds 7 = .ok (.invokevirtual 236, 3) := by decide +kernel
theorem dX8_atOdds_10 : decode cX8_atOdds 10 = .ok (.invokestatic 120, 3) := by decide +kernel
theorem dX8_atOdds_13 : decode cX8_atOdds 13 = .ok (.aload_n 0, 1) := by decide +kernel
theorem dX8_atOdds_14 : decode cX8_atOdds 14 = .ok (.getfield 23, 3) := by decide +kernel
theorem dX8_atOdds_17 : decode cX8_atOdds 17 = .ok (.iload_n 1, 1) := by decide +kernel
theorem dX8_atOdds_18 : decode cX8_atOdds 18 = .ok (.aaload, 1) := by decide +kernel
theorem dX8_atOdds_19 : decode cX8_atOdds 19 = .ok (.getfield 211, 3) := by decide +kernel
theorem dX8_atOdds_22 : decode cX8_atOdds 22 = .ok (.iand, 1) := by decide +kernel
theorem dX8_atOdds_23 : decode cX8_atOdds 23 = .ok (.aload_n 0, 1) := by decide +kernel
theorem dX8_atOdds_24 : decode cX8_atOdds 24 = .ok (.getfield 23, 3) := by decide +kernel
theorem dX8_atOdds_27 : decode cX8_atOdds 27 = .ok (.iload_n 2, 1) := by decide +kernel
theorem dX8_atOdds_28 : decode cX8_atOdds 28 = .ok (.aaload, 1) := by decide +kernel
theorem dX8_atOdds_29 : decode cX8_atOdds 29 = .ok (.getfield 211, 3) := by decide +kernel
theorem dX8_atOdds_32 : decode cX8_atOdds 32 = .ok (.iand, 1) := by decide +kernel
theorem dX8_atOdds_33 : decode cX8_atOdds 33 = .ok (.ireturn, 1) := by decide +kernel
theorem dX8_givenBy_0 : decode cX8_givenBy 0 = .ok (.aload_n 0, 1) := by decide +kernel
theorem dX8_givenBy_1 : decode cX8_givenBy 1 = .ok (.iload_n 1, 1) := by decide +kernel
theorem dX8_givenBy_2 : decode cX8_givenBy 2 = .ok (.invokevirtual 236, 3) := by decide +kernel
theorem dX8_givenBy_5 : decode cX8_givenBy 5 = .ok (.aload_n 0, 1) := by decide +kernel
theorem dX8_givenBy_6 : decode cX8_givenBy 6 = .ok (.iload_n 2, 1) := by decide +kernel
theorem dX8_givenBy_7 : decode cX8_givenBy 7 = .ok (.invokevirtual 236, 3) := by decide +kernel
theorem dX8_givenBy_10 : decode cX8_givenBy 10 = .ok (.invokestatic 120, 3) := by decide +kernel
theorem dX8_givenBy_13 : decode cX8_givenBy 13 = .ok (.istore_n 3, 1) := by decide +kernel
theorem dX8_givenBy_14 : decode cX8_givenBy 14 = .ok (.iload_n 1, 1) := by decide +kernel
theorem dX8_givenBy_15 : decode cX8_givenBy 15 = .ok (.iload_n 2, 1) := by decide +kernel
theorem dX8_givenBy_16 : decode cX8_givenBy 16 = .ok (.if_icmp .ge 17, 3) := by decide +kernel
theorem dX8_givenBy_19 : decode cX8_givenBy 19 = .ok (.iload_n 3, 1) := by decide +kernel
theorem dX8_givenBy_20 : decode cX8_givenBy 20 = .ok (.aload_n 0, 1) := by decide +kernel
theorem dX8_givenBy_21 : decode cX8_givenBy 21 = .ok (.getfield 23, 3) := by decide +kernel
theorem dX8_givenBy_24 : decode cX8_givenBy 24 = .ok (.iload_n 2, 1) := by decide +kernel
theorem dX8_givenBy_25 : decode cX8_givenBy 25 = .ok (.aaload, 1) := by decide +kernel
theorem dX8_givenBy_26 : decode cX8_givenBy 26 = .ok (.getfield 211, 3) := by decide +kernel
theorem dX8_givenBy_29 : decode cX8_givenBy 29 = .ok (.iand, 1) := by decide +kernel
theorem dX8_givenBy_30 : decode cX8_givenBy 30 = .ok (.goto 16, 3) := by decide +kernel
theorem dX8_givenBy_33 : decode cX8_givenBy 33 = .ok (.iload_n 3, 1) := by decide +kernel
theorem dX8_givenBy_34 : decode cX8_givenBy 34 = .ok (.aload_n 0, 1) := by decide +kernel
theorem dX8_givenBy_35 : decode cX8_givenBy 35 = .ok (.getfield 23, 3) := by decide +kernel
theorem dX8_givenBy_38 : decode cX8_givenBy 38 = .ok (.iload_n 1, 1) := by decide +kernel
theorem dX8_givenBy_39 : decode cX8_givenBy 39 = .ok (.aaload, 1) := by decide +kernel
theorem dX8_givenBy_40 : decode cX8_givenBy 40 = .ok (.getfield 211, 3) := by decide +kernel
theorem dX8_givenBy_43 : decode cX8_givenBy 43 = .ok (.iconst (-1), 1) := by decide +kernel
theorem dX8_givenBy_44 : decode cX8_givenBy 44 = .ok (.ixor, 1) := by decide +kernel
theorem dX8_givenBy_45 : decode cX8_givenBy 45 = .ok (.iand, 1) := by decide +kernel
theorem dX8_givenBy_46 : decode cX8_givenBy 46 = .ok (.ireturn, 1) := by decide +kernel
theorem dX8_votesFor_0 : decode cX8_votesFor 0 = .ok (.iconst 0, 1) := by decide +kernel
theorem dX8_votesFor_1 : decode cX8_votesFor 1 = .ok (.istore_n 3, 1) := by decide +kernel
theorem dX8_votesFor_2 : decode cX8_votesFor 2 = .ok (.iconst 0, 1) := by decide +kernel
theorem dX8_votesFor_3 : decode cX8_votesFor 3 = .ok (.istore 4, 2) := by decide +kernel
theorem dX8_votesFor_5 : decode cX8_votesFor 5 = .ok (.iload 4, 2) := by decide +kernel
theorem dX8_votesFor_7 : decode cX8_votesFor 7 = .ok (.aload_n 0, 1) := by decide +kernel
theorem dX8_votesFor_8 : decode cX8_votesFor 8 = .ok (.getfield 205, 3) := by decide +kernel
theorem dX8_votesFor_11 : decode cX8_votesFor 11 = .ok (.if_icmp .ge 37, 3) := by decide +kernel
theorem dX8_votesFor_14 : decode cX8_votesFor 14 = .ok (.aload_n 0, 1) := by decide +kernel
theorem dX8_votesFor_15 : decode cX8_votesFor 15 = .ok (.getfield 23, 3) := by decide +kernel
theorem dX8_votesFor_18 : decode cX8_votesFor 18 = .ok (.iload 4, 2) := by decide +kernel
theorem dX8_votesFor_20 : decode cX8_votesFor 20 = .ok (.aaload, 1) := by decide +kernel
theorem dX8_votesFor_21 : decode cX8_votesFor 21 = .ok (.getfield 244, 3) := by decide +kernel
theorem dX8_votesFor_24 : decode cX8_votesFor 24 = .ok (.ifCond .eq 18, 3) := by decide +kernel
theorem dX8_votesFor_27 : decode cX8_votesFor 27 = .ok (.aload_n 0, 1) := by decide +kernel
theorem dX8_votesFor_28 : decode cX8_votesFor 28 = .ok (.iload 4, 2) := by decide +kernel
theorem dX8_votesFor_30 : decode cX8_votesFor 30 = .ok (.invokevirtual 236, 3) := by decide +kernel
theorem dX8_votesFor_33 : decode cX8_votesFor 33 = .ok (.iload_n 1, 1) := by decide +kernel
theorem dX8_votesFor_34 : decode cX8_votesFor 34 = .ok (.iaload, 1) := by decide +kernel
theorem dX8_votesFor_35 : decode cX8_votesFor 35 = .ok (.iload_n 2, 1) := by decide +kernel
theorem dX8_votesFor_36 : decode cX8_votesFor 36 = .ok (.if_icmp .ne 6, 3) := by decide +kernel
theorem dX8_votesFor_39 : decode cX8_votesFor 39 = .ok (.iinc 3 1, 3) := by decide +kernel
theorem dX8_votesFor_42 : decode cX8_votesFor 42 = .ok (.iinc 4 1, 3) := by decide +kernel
theorem dX8_votesFor_45 : decode cX8_votesFor 45 = .ok (.goto (-40), 3) := by decide +kernel
theorem dX8_votesFor_48 : decode cX8_votesFor 48 = .ok (.iload_n 3, 1) := by decide +kernel
theorem dX8_votesFor_49 : decode cX8_votesFor 49 = .ok (.ireturn, 1) := by decide +kernel
theorem dX8_votesAgainst_0 : decode cX8_votesAgainst 0 = .ok (.aload_n 0, 1) := by decide +kernel
theorem dX8_votesAgainst_1 : decode cX8_votesAgainst 1 = .ok (.getfield 42, 3) := by decide +kernel
theorem dX8_votesAgainst_4 : decode cX8_votesAgainst 4 = .ok (.iload_n 1, 1) := by decide +kernel
theorem dX8_votesAgainst_5 : decode cX8_votesAgainst 5 = .ok (.iaload, 1) := by decide +kernel
theorem dX8_votesAgainst_6 : decode cX8_votesAgainst 6 = .ok (.iload_n 2, 1) := by decide +kernel
theorem dX8_votesAgainst_7 : decode cX8_votesAgainst 7 = .ok (.if_icmp .ne 7, 3) := by decide +kernel
theorem dX8_votesAgainst_10 : decode cX8_votesAgainst 10 = .ok (.iconst 0, 1) := by decide +kernel
theorem dX8_votesAgainst_11 : decode cX8_votesAgainst 11 = .ok (.goto 14, 3) := by decide +kernel
theorem dX8_votesAgainst_14 : decode cX8_votesAgainst 14 = .ok (.aload_n 0, 1) := by decide +kernel
theorem dX8_votesAgainst_15 : decode cX8_votesAgainst 15 = .ok (.iload_n 1, 1) := by decide +kernel
theorem dX8_votesAgainst_16 : decode cX8_votesAgainst 16 = .ok (.aload_n 0, 1) := by decide +kernel
theorem dX8_votesAgainst_17 : decode cX8_votesAgainst 17 = .ok (.getfield 42, 3) := by decide +kernel
theorem dX8_votesAgainst_20 : decode cX8_votesAgainst 20 = .ok (.iload_n 1, 1) := by decide +kernel
theorem dX8_votesAgainst_21 : decode cX8_votesAgainst 21 = .ok (.iaload, 1) := by decide +kernel
theorem dX8_votesAgainst_22 : decode cX8_votesAgainst 22 = .ok (.invokevirtual 253, 3) := by decide +kernel
theorem dX8_votesAgainst_25 : decode cX8_votesAgainst 25 = .ok (.ireturn, 1) := by decide +kernel
theorem dX8_isCarried_0 : decode cX8_isCarried 0 = .ok (.aload_n 0, 1) := by decide +kernel
theorem dX8_isCarried_1 : decode cX8_isCarried 1 = .ok (.iload_n 1, 1) := by decide +kernel
theorem dX8_isCarried_2 : decode cX8_isCarried 2 = .ok (.iload_n 2, 1) := by decide +kernel
theorem dX8_isCarried_3 : decode cX8_isCarried 3 = .ok (.invokevirtual 253, 3) := by decide +kernel
theorem dX8_isCarried_6 : decode cX8_isCarried 6 = .ok (.istore_n 3, 1) := by decide +kernel
theorem dX8_isCarried_7 : decode cX8_isCarried 7 = .ok (.iload_n 3, 1) := by decide +kernel
theorem dX8_isCarried_8 : decode cX8_isCarried 8 = .ok (.aload_n 0, 1) := by decide +kernel
theorem dX8_isCarried_9 : decode cX8_isCarried 9 = .ok (.iload_n 1, 1) := by decide +kernel
theorem dX8_isCarried_10 : decode cX8_isCarried 10 = .ok (.iload_n 2, 1) := by decide +kernel
theorem dX8_isCarried_11 : decode cX8_isCarried 11 = .ok (.invokevirtual 256, 3) := by decide +kernel
theorem dX8_isCarried_14 : decode cX8_isCarried 14 = .ok (.iadd, 1) := by decide +kernel
theorem dX8_isCarried_15 : decode cX8_isCarried 15 = .ok (.istore 4, 2) := by decide +kernel
theorem dX8_isCarried_17 : decode cX8_isCarried 17 = .ok (.iload_n 3, 1) := by decide +kernel
theorem dX8_isCarried_18 : decode cX8_isCarried 18 = .ok (.aload_n 0, 1) := by decide +kernel
theorem dX8_isCarried_19 : decode cX8_isCarried 19 = .ok (.getfield 80, 3) := by decide +kernel
theorem dX8_isCarried_22 : decode cX8_isCarried 22 = .ok (.imul, 1) := by decide +kernel
theorem dX8_isCarried_23 : decode cX8_isCarried 23 = .ok (.aload_n 0, 1) := by decide +kernel
theorem dX8_isCarried_24 : decode cX8_isCarried 24 = .ok (.getfield 76, 3) := by decide +kernel
theorem dX8_isCarried_27 : decode cX8_isCarried 27 = .ok (.iload 4, 2) := by decide +kernel
theorem dX8_isCarried_29 : decode cX8_isCarried 29 = .ok (.imul, 1) := by decide +kernel
theorem dX8_isCarried_30 : decode cX8_isCarried 30 = .ok (.if_icmp .lt 16, 3) := by decide +kernel
theorem dX8_isCarried_33 : decode cX8_isCarried 33 = .ok (.iload 4, 2) := by decide +kernel
theorem dX8_isCarried_35 : decode cX8_isCarried 35 = .ok (.aload_n 0, 1) := by decide +kernel
theorem dX8_isCarried_36 : decode cX8_isCarried 36 = .ok (.getfield 83, 3) := by decide +kernel
theorem dX8_isCarried_39 : decode cX8_isCarried 39 = .ok (.if_icmp .lt 7, 3) := by decide +kernel
theorem dX8_isCarried_42 : decode cX8_isCarried 42 = .ok (.iconst 1, 1) := by decide +kernel
theorem dX8_isCarried_43 : decode cX8_isCarried 43 = .ok (.goto 4, 3) := by decide +kernel
theorem dX8_isCarried_46 : decode cX8_isCarried 46 = .ok (.iconst 0, 1) := by decide +kernel
theorem dX8_isCarried_47 : decode cX8_isCarried 47 = .ok (.ireturn, 1) := by decide +kernel
theorem dX8_leaving_0 : decode cX8_leaving 0 = .ok (.iconst 0, 1) := by decide +kernel
theorem dX8_leaving_1 : decode cX8_leaving 1 = .ok (.istore_n 3, 1) := by decide +kernel
theorem dX8_leaving_2 : decode cX8_leaving 2 = .ok (.iconst 0, 1) := by decide +kernel
theorem dX8_leaving_3 : decode cX8_leaving 3 = .ok (.istore 4, 2) := by decide +kernel
theorem dX8_leaving_5 : decode cX8_leaving 5 = .ok (.iload 4, 2) := by decide +kernel
theorem dX8_leaving_7 : decode cX8_leaving 7 = .ok (.aload_n 0, 1) := by decide +kernel
theorem dX8_leaving_8 : decode cX8_leaving 8 = .ok (.getfield 205, 3) := by decide +kernel
theorem dX8_leaving_11 : decode cX8_leaving 11 = .ok (.if_icmp .ge 59, 3) := by decide +kernel
theorem dX8_leaving_14 : decode cX8_leaving 14 = .ok (.aload_n 0, 1) := by decide +kernel
theorem dX8_leaving_15 : decode cX8_leaving 15 = .ok (.getfield 23, 3) := by decide +kernel
theorem dX8_leaving_18 : decode cX8_leaving 18 = .ok (.iload 4, 2) := by decide +kernel
theorem dX8_leaving_20 : decode cX8_leaving 20 = .ok (.aaload, 1) := by decide +kernel
theorem dX8_leaving_21 : decode cX8_leaving 21 = .ok (.getfield 244, 3) := by decide +kernel
theorem dX8_leaving_24 : decode cX8_leaving 24 = .ok (.ifCond .eq 40, 3) := by decide +kernel
theorem dX8_leaving_27 : decode cX8_leaving 27 = .ok (.aload_n 0, 1) := by decide +kernel
theorem dX8_leaving_28 : decode cX8_leaving 28 = .ok (.getfield 23, 3) := by decide +kernel
theorem dX8_leaving_31 : decode cX8_leaving 31 = .ok (.iload 4, 2) := by decide +kernel
theorem dX8_leaving_33 : decode cX8_leaving 33 = .ok (.aaload, 1) := by decide +kernel
theorem dX8_leaving_34 : decode cX8_leaving 34 = .ok (.getfield 211, 3) := by decide +kernel
theorem dX8_leaving_37 : decode cX8_leaving 37 = .ok (.iload_n 1, 1) := by decide +kernel
theorem dX8_leaving_38 : decode cX8_leaving 38 = .ok (.ishr, 1) := by decide +kernel
theorem dX8_leaving_39 : decode cX8_leaving 39 = .ok (.iconst 1, 1) := by decide +kernel
theorem dX8_leaving_40 : decode cX8_leaving 40 = .ok (.iand, 1) := by decide +kernel
theorem dX8_leaving_41 : decode cX8_leaving 41 = .ok (.iconst 1, 1) := by decide +kernel
theorem dX8_leaving_42 : decode cX8_leaving 42 = .ok (.if_icmp .ne 22, 3) := by decide +kernel
theorem dX8_leaving_45 : decode cX8_leaving 45 = .ok (.aload_n 0, 1) := by decide +kernel
theorem dX8_leaving_46 : decode cX8_leaving 46 = .ok (.iload 4, 2) := by decide +kernel
theorem dX8_leaving_48 : decode cX8_leaving 48 = .ok (.invokevirtual 236, 3) := by decide +kernel
theorem dX8_leaving_51 : decode cX8_leaving 51 = .ok (.iload_n 1, 1) := by decide +kernel
theorem dX8_leaving_52 : decode cX8_leaving 52 = .ok (.iaload, 1) := by decide +kernel
theorem dX8_leaving_53 : decode cX8_leaving 53 = .ok (.iload_n 2, 1) := by decide +kernel
theorem dX8_leaving_54 : decode cX8_leaving 54 = .ok (.if_icmp .eq 10, 3) := by decide +kernel
theorem dX8_leaving_57 : decode cX8_leaving 57 = .ok (.iload_n 3, 1) := by decide +kernel
theorem dX8_leaving_58 : decode cX8_leaving 58 = .ok (.iconst 1, 1) := by decide +kernel
theorem dX8_leaving_59 : decode cX8_leaving 59 = .ok (.iload 4, 2) := by decide +kernel
theorem dX8_leaving_61 : decode cX8_leaving 61 = .ok (.ishl, 1) := by decide +kernel
theorem dX8_leaving_62 : decode cX8_leaving 62 = .ok (.ior, 1) := by decide +kernel
theorem dX8_leaving_63 : decode cX8_leaving 63 = .ok (.istore_n 3, 1) := by decide +kernel
theorem dX8_leaving_64 : decode cX8_leaving 64 = .ok (.iinc 4 1, 3) := by decide +kernel
theorem dX8_leaving_67 : decode cX8_leaving 67 = .ok (.goto (-62), 3) := by decide +kernel
theorem dX8_leaving_70 : decode cX8_leaving 70 = .ok (.iload_n 3, 1) := by decide +kernel
theorem dX8_leaving_71 : decode cX8_leaving 71 = .ok (.ireturn, 1) := by decide +kernel
theorem dX8_seekLines_0 : decode cX8_seekLines 0 = .ok (.iload_n 1, 1) := by decide +kernel
theorem dX8_seekLines_1 : decode cX8_seekLines 1 = .ok (.aload_n 0, 1) := by decide +kernel
theorem dX8_seekLines_2 : decode cX8_seekLines 2 = .ok (.getfield 42, 3) := by decide +kernel
theorem dX8_seekLines_5 : decode cX8_seekLines 5 = .ok (.aload_n 2, 1) := by decide +kernel
theorem dX8_seekLines_6 : decode cX8_seekLines 6 = .ok (.invokestatic 120, 3) := by decide +kernel
theorem dX8_seekLines_9 : decode cX8_seekLines 9 = .ok (.iand, 1) := by decide +kernel
theorem dX8_seekLines_10 : decode cX8_seekLines 10 = .ok (.istore_n 3, 1) := by decide +kernel
theorem dX8_seekLines_11 : decode cX8_seekLines 11 = .ok (.iconst 1, 1) := by decide +kernel
theorem dX8_seekLines_12 : decode cX8_seekLines 12 = .ok (.iload_n 3, 1) := by decide +kernel
theorem dX8_seekLines_13 : decode cX8_seekLines 13 = .ok (.invokestatic 265, 3) := by decide +kernel
theorem dX8_seekLines_16 : decode cX8_seekLines 16 = .ok (.ishl, 1) := by decide +kernel
theorem dX8_seekLines_17 : decode cX8_seekLines 17 = .ok (.istore 4, 2) := by decide +kernel
theorem dX8_seekLines_19 : decode cX8_seekLines 19 = .ok (.aload_n 0, 1) := by decide +kernel
theorem dX8_seekLines_20 : decode cX8_seekLines 20 = .ok (.getfield 65, 3) := by decide +kernel
theorem dX8_seekLines_23 : decode cX8_seekLines 23 = .ok (.invokevirtual 353, 3) := by decide +kernel
theorem dX8_seekLines_26 : decode cX8_seekLines 26 = .ok (.iconst 0, 1) := by decide +kernel
theorem dX8_seekLines_27 : decode cX8_seekLines 27 = .ok (.istore 5, 2) := by decide +kernel
theorem dX8_seekLines_29 : decode cX8_seekLines 29 = .ok (.iconst 0, 1) := by decide +kernel
theorem dX8_seekLines_30 : decode cX8_seekLines 30 = .ok (.istore 6, 2) := by decide +kernel
theorem dX8_seekLines_32 : decode cX8_seekLines 32 = .ok (.iload 6, 2) := by decide +kernel
theorem dX8_seekLines_34 : decode cX8_seekLines 34 = .ok (.iload 4, 2) := by decide +kernel
theorem dX8_seekLines_36 : decode cX8_seekLines 36 = .ok (.if_icmp .ge 61, 3) := by decide +kernel
theorem dX8_seekLines_39 : decode cX8_seekLines 39 = .ok (.aload_n 0, 1) := by decide +kernel
theorem dX8_seekLines_40 : decode cX8_seekLines 40 = .ok (.aload_n 0, 1) := by decide +kernel
theorem dX8_seekLines_41 : decode cX8_seekLines 41 = .ok (.getfield 42, 3) := by decide +kernel
theorem dX8_seekLines_44 : decode cX8_seekLines 44 = .ok (.aload_n 2, 1) := by decide +kernel
theorem dX8_seekLines_45 : decode cX8_seekLines 45 = .ok (.iload 5, 2) := by decide +kernel
theorem dX8_seekLines_47 : decode cX8_seekLines 47 = .ok (.invokevirtual 157, 3) := by decide +kernel
theorem dX8_seekLines_50 : decode cX8_seekLines 50 = .ok (.aload_n 0, 1) := by decide +kernel
theorem dX8_seekLines_51 : decode cX8_seekLines 51 = .ok (.invokevirtual 356, 3) := by decide +kernel
theorem dX8_seekLines_54 : decode cX8_seekLines 54 = .ok (.istore 7, 2) := by decide +kernel
theorem dX8_seekLines_56 : decode cX8_seekLines 56 = .ok (.iload 7, 2) := by decide +kernel
theorem dX8_seekLines_58 : decode cX8_seekLines 58 = .ok (.aload_n 0, 1) := by decide +kernel
theorem dX8_seekLines_59 : decode cX8_seekLines 59 = .ok (.getfield 65, 3) := by decide +kernel
theorem dX8_seekLines_62 : decode cX8_seekLines 62 = .ok (.getfield 277, 3) := by decide +kernel
theorem dX8_seekLines_65 : decode cX8_seekLines 65 = .ok (.if_icmp .lt 18, 3) := by decide +kernel
theorem dX8_seekLines_68 : decode cX8_seekLines 68 = .ok (.aload_n 0, 1) := by decide +kernel
theorem dX8_seekLines_69 : decode cX8_seekLines 69 = .ok (.getfield 65, 3) := by decide +kernel
theorem dX8_seekLines_72 : decode cX8_seekLines 72 = .ok (.iload 5, 2) := by decide +kernel
theorem dX8_seekLines_74 : decode cX8_seekLines 74 = .ok (.iload 7, 2) := by decide +kernel
theorem dX8_seekLines_76 : decode cX8_seekLines 76 = .ok (.aload_n 0, 1) := by decide +kernel
theorem dX8_seekLines_77 : decode cX8_seekLines 77 = .ok (.invokevirtual 359, 3) := by decide +kernel
theorem dX8_seekLines_80 : decode cX8_seekLines 80 = .ok (.invokevirtual 362, 3) := by decide +kernel
theorem dX8_seekLines_83 : decode cX8_seekLines 83 = .ok (.iload 5, 2) := by decide +kernel
theorem dX8_seekLines_85 : decode cX8_seekLines 85 = .ok (.iload_n 3, 1) := by decide +kernel
theorem dX8_seekLines_86 : decode cX8_seekLines 86 = .ok (.isub, 1) := by decide +kernel
theorem dX8_seekLines_87 : decode cX8_seekLines 87 = .ok (.iload_n 3, 1) := by decide +kernel
theorem dX8_seekLines_88 : decode cX8_seekLines 88 = .ok (.iand, 1) := by decide +kernel
theorem dX8_seekLines_89 : decode cX8_seekLines 89 = .ok (.istore 5, 2) := by decide +kernel
theorem dX8_seekLines_91 : decode cX8_seekLines 91 = .ok (.iinc 6 1, 3) := by decide +kernel
theorem dX8_seekLines_94 : decode cX8_seekLines 94 = .ok (.goto (-62), 3) := by decide +kernel
theorem dX8_seekLines_97 : decode cX8_seekLines 97 = .ok (.return_, 1) := by decide +kernel
theorem dX8_staying_0 : decode cX8_staying 0 = .ok (.iconst 0, 1) := by decide +kernel
theorem dX8_staying_1 : decode cX8_staying 1 = .ok (.istore_n 1, 1) := by decide +kernel
theorem dX8_staying_2 : decode cX8_staying 2 = .ok (.iconst 0, 1) := by decide +kernel
theorem dX8_staying_3 : decode cX8_staying 3 = .ok (.istore_n 2, 1) := by decide +kernel
theorem dX8_staying_4 : decode cX8_staying 4 = .ok (.iload_n 2, 1) := by decide +kernel
theorem dX8_staying_5 : decode cX8_staying 5 = .ok (.aload_n 0, 1) := by decide +kernel
theorem dX8_staying_6 : decode cX8_staying 6 = .ok (.getfield 205, 3) := by decide +kernel
theorem dX8_staying_9 : decode cX8_staying 9 = .ok (.if_icmp .ge 49, 3) := by decide +kernel
theorem dX8_staying_12 : decode cX8_staying 12 = .ok (.aload_n 0, 1) := by decide +kernel
theorem dX8_staying_13 : decode cX8_staying 13 = .ok (.getfield 23, 3) := by decide +kernel
theorem dX8_staying_16 : decode cX8_staying 16 = .ok (.iload_n 2, 1) := by decide +kernel
theorem dX8_staying_17 : decode cX8_staying 17 = .ok (.aaload, 1) := by decide +kernel
theorem dX8_staying_18 : decode cX8_staying 18 = .ok (.getfield 244, 3) := by decide +kernel
theorem dX8_staying_21 : decode cX8_staying 21 = .ok (.ifCond .eq 31, 3) := by decide +kernel
theorem dX8_staying_24 : decode cX8_staying 24 = .ok (.aload_n 0, 1) := by decide +kernel
theorem dX8_staying_25 : decode cX8_staying 25 = .ok (.getfield 23, 3) := by decide +kernel
theorem dX8_staying_28 : decode cX8_staying 28 = .ok (.iload_n 2, 1) := by decide +kernel
theorem dX8_staying_29 : decode cX8_staying 29 = .ok (.aaload, 1) := by decide +kernel
theorem dX8_staying_30 : decode cX8_staying 30 = .ok (.getfield 211, 3) := by decide +kernel
theorem dX8_staying_33 : decode cX8_staying 33 = .ok (.aload_n 0, 1) := by decide +kernel
theorem dX8_staying_34 : decode cX8_staying 34 = .ok (.getfield 45, 3) := by decide +kernel
theorem dX8_staying_37 : decode cX8_staying 37 = .ok (.aload_n 0, 1) := by decide +kernel
theorem dX8_staying_38 : decode cX8_staying 38 = .ok (.iload_n 2, 1) := by decide +kernel
theorem dX8_staying_39 : decode cX8_staying 39 = .ok (.invokevirtual 236, 3) := by decide +kernel
theorem dX8_staying_42 : decode cX8_staying 42 = .ok (.invokestatic 120, 3) := by decide +kernel
theorem dX8_staying_45 : decode cX8_staying 45 = .ok (.iand, 1) := by decide +kernel
theorem dX8_staying_46 : decode cX8_staying 46 = .ok (.ifCond .ne 6, 3) := by decide +kernel
theorem dX8_staying_49 : decode cX8_staying 49 = .ok (.iinc 1 1, 3) := by decide +kernel
theorem dX8_staying_52 : decode cX8_staying 52 = .ok (.iinc 2 1, 3) := by decide +kernel
theorem dX8_staying_55 : decode cX8_staying 55 = .ok (.goto (-51), 3) := by decide +kernel
theorem dX8_staying_58 : decode cX8_staying 58 = .ok (.iload_n 1, 1) := by decide +kernel
theorem dX8_staying_59 : decode cX8_staying 59 = .ok (.ireturn, 1) := by decide +kernel
theorem dX8_hurtInAll_0 : decode cX8_hurtInAll 0 = .ok (.iconst 0, 1) := by decide +kernel
theorem dX8_hurtInAll_1 : decode cX8_hurtInAll 1 = .ok (.istore_n 1, 1) := by decide +kernel
theorem dX8_hurtInAll_2 : decode cX8_hurtInAll 2 = .ok (.iconst 0, 1) := by decide +kernel
theorem dX8_hurtInAll_3 : decode cX8_hurtInAll 3 = .ok (.istore_n 2, 1) := by decide +kernel
theorem dX8_hurtInAll_4 : decode cX8_hurtInAll 4 = .ok (.iload_n 2, 1) := by decide +kernel
theorem dX8_hurtInAll_5 : decode cX8_hurtInAll 5 = .ok (.aload_n 0, 1) := by decide +kernel
theorem dX8_hurtInAll_6 : decode cX8_hurtInAll 6 = .ok (.getfield 137, 3) := by decide +kernel
theorem dX8_hurtInAll_9 : decode cX8_hurtInAll 9 = .ok (.if_icmp .ge 36, 3) := by decide +kernel
theorem dX8_hurtInAll_12 : decode cX8_hurtInAll 12 = .ok (.aload_n 0, 1) := by decide +kernel
theorem dX8_hurtInAll_13 : decode cX8_hurtInAll 13 = .ok (.getfield 17, 3) := by decide +kernel
theorem dX8_hurtInAll_16 : decode cX8_hurtInAll 16 = .ok (.iload_n 2, 1) := by decide +kernel
theorem dX8_hurtInAll_17 : decode cX8_hurtInAll 17 = .ok (.aaload, 1) := by decide +kernel
theorem dX8_hurtInAll_18 : decode cX8_hurtInAll 18 = .ok (.aload_n 0, 1) := by decide +kernel
theorem dX8_hurtInAll_19 : decode cX8_hurtInAll 19 = .ok (.getfield 45, 3) := by decide +kernel
theorem dX8_hurtInAll_22 : decode cX8_hurtInAll 22 = .ok (.aload_n 0, 1) := by decide +kernel
theorem dX8_hurtInAll_23 : decode cX8_hurtInAll 23 = .ok (.getfield 51, 3) := by decide +kernel
theorem dX8_hurtInAll_26 : decode cX8_hurtInAll 26 = .ok (.invokevirtual 161, 3) := by decide +kernel
theorem dX8_hurtInAll_29 : decode cX8_hurtInAll 29 = .ok (.iload_n 1, 1) := by decide +kernel
theorem dX8_hurtInAll_30 : decode cX8_hurtInAll 30 = .ok (.aload_n 0, 1) := by decide +kernel
theorem dX8_hurtInAll_31 : decode cX8_hurtInAll 31 = .ok (.getfield 51, 3) := by decide +kernel
theorem dX8_hurtInAll_34 : decode cX8_hurtInAll 34 = .ok (.getfield 366, 3) := by decide +kernel
theorem dX8_hurtInAll_37 : decode cX8_hurtInAll 37 = .ok (.iadd, 1) := by decide +kernel
theorem dX8_hurtInAll_38 : decode cX8_hurtInAll 38 = .ok (.istore_n 1, 1) := by decide +kernel
theorem dX8_hurtInAll_39 : decode cX8_hurtInAll 39 = .ok (.iinc 2 1, 3) := by decide +kernel
theorem dX8_hurtInAll_42 : decode cX8_hurtInAll 42 = .ok (.goto (-38), 3) := by decide +kernel
theorem dX8_hurtInAll_45 : decode cX8_hurtInAll 45 = .ok (.iload_n 1, 1) := by decide +kernel
theorem dX8_hurtInAll_46 : decode cX8_hurtInAll 46 = .ok (.ireturn, 1) := by decide +kernel
theorem dX8_toldMatches_0 : decode cX8_toldMatches 0 = .ok (.iconst 0, 1) := by decide +kernel
theorem dX8_toldMatches_1 : decode cX8_toldMatches 1 = .ok (.istore_n 1, 1) := by decide +kernel
theorem dX8_toldMatches_2 : decode cX8_toldMatches 2 = .ok (.iconst 0, 1) := by decide +kernel
theorem dX8_toldMatches_3 : decode cX8_toldMatches 3 = .ok (.istore_n 2, 1) := by decide +kernel
theorem dX8_toldMatches_4 : decode cX8_toldMatches 4 = .ok (.iload_n 2, 1) := by decide +kernel
theorem dX8_toldMatches_5 : decode cX8_toldMatches 5 = .ok (.aload_n 0, 1) := by decide +kernel
theorem dX8_toldMatches_6 : decode cX8_toldMatches 6 = .ok (.getfield 137, 3) := by decide +kernel
theorem dX8_toldMatches_9 : decode cX8_toldMatches 9 = .ok (.if_icmp .ge 24, 3) := by decide +kernel
theorem dX8_toldMatches_12 : decode cX8_toldMatches 12 = .ok (.aload_n 0, 1) := by decide +kernel
theorem dX8_toldMatches_13 : decode cX8_toldMatches 13 = .ok (.getfield 17, 3) := by decide +kernel
theorem dX8_toldMatches_16 : decode cX8_toldMatches 16 = .ok (.iload_n 2, 1) := by decide +kernel
theorem dX8_toldMatches_17 : decode cX8_toldMatches 17 = .ok (.aaload, 1) := by decide +kernel
theorem dX8_toldMatches_18 : decode cX8_toldMatches 18 = .ok (.getfield 180, 3) := by decide +kernel
theorem dX8_toldMatches_21 : decode cX8_toldMatches 21 = .ok (.ifCond .eq 6, 3) := by decide +kernel
theorem dX8_toldMatches_24 : decode cX8_toldMatches 24 = .ok (.iinc 1 1, 3) := by decide +kernel
theorem dX8_toldMatches_27 : decode cX8_toldMatches 27 = .ok (.iinc 2 1, 3) := by decide +kernel
theorem dX8_toldMatches_30 : decode cX8_toldMatches 30 = .ok (.goto (-26), 3) := by decide +kernel
theorem dX8_toldMatches_33 : decode cX8_toldMatches 33 = .ok (.iload_n 1, 1) := by decide +kernel
theorem dX8_toldMatches_34 : decode cX8_toldMatches 34 = .ok (.ireturn, 1) := by decide +kernel
theorem dX8_members_0 : decode cX8_members 0 = .ok (.iconst 0, 1) := by decide +kernel
theorem dX8_members_1 : decode cX8_members 1 = .ok (.istore_n 1, 1) := by decide +kernel
theorem dX8_members_2 : decode cX8_members 2 = .ok (.iconst 0, 1) := by decide +kernel
theorem dX8_members_3 : decode cX8_members 3 = .ok (.istore_n 2, 1) := by decide +kernel
theorem dX8_members_4 : decode cX8_members 4 = .ok (.iload_n 2, 1) := by decide +kernel
theorem dX8_members_5 : decode cX8_members 5 = .ok (.aload_n 0, 1) := by decide +kernel
theorem dX8_members_6 : decode cX8_members 6 = .ok (.getfield 205, 3) := by decide +kernel
theorem dX8_members_9 : decode cX8_members 9 = .ok (.if_icmp .ge 24, 3) := by decide +kernel
theorem dX8_members_12 : decode cX8_members 12 = .ok (.aload_n 0, 1) := by decide +kernel
theorem dX8_members_13 : decode cX8_members 13 = .ok (.getfield 23, 3) := by decide +kernel
theorem dX8_members_16 : decode cX8_members 16 = .ok (.iload_n 2, 1) := by decide +kernel
theorem dX8_members_17 : decode cX8_members 17 = .ok (.aaload, 1) := by decide +kernel
theorem dX8_members_18 : decode cX8_members 18 = .ok (.getfield 244, 3) := by decide +kernel
theorem dX8_members_21 : decode cX8_members 21 = .ok (.ifCond .eq 6, 3) := by decide +kernel
theorem dX8_members_24 : decode cX8_members 24 = .ok (.iinc 1 1, 3) := by decide +kernel
theorem dX8_members_27 : decode cX8_members 27 = .ok (.iinc 2 1, 3) := by decide +kernel
theorem dX8_members_30 : decode cX8_members 30 = .ok (.goto (-26), 3) := by decide +kernel
theorem dX8_members_33 : decode cX8_members 33 = .ok (.iload_n 1, 1) := by decide +kernel
theorem dX8_members_34 : decode cX8_members 34 = .ok (.ireturn, 1) := by decide +kernel
theorem dX8_bytesOfCodes_0 : decode cX8_bytesOfCodes 0 = .ok (.iconst 0, 1) := by decide +kernel
theorem dX8_bytesOfCodes_1 : decode cX8_bytesOfCodes 1 = .ok (.istore_n 1, 1) := by decide +kernel
theorem dX8_bytesOfCodes_2 : decode cX8_bytesOfCodes 2 = .ok (.iconst 0, 1) := by decide +kernel
theorem dX8_bytesOfCodes_3 : decode cX8_bytesOfCodes 3 = .ok (.istore_n 2, 1) := by decide +kernel
theorem dX8_bytesOfCodes_4 : decode cX8_bytesOfCodes 4 = .ok (.iload_n 2, 1) := by decide +kernel
theorem dX8_bytesOfCodes_5 : decode cX8_bytesOfCodes 5 = .ok (.bipush 11, 2) := by decide +kernel
theorem dX8_bytesOfCodes_7 : decode cX8_bytesOfCodes 7 = .ok (.if_icmp .ge 21, 3) := by decide +kernel
theorem dX8_bytesOfCodes_10 : decode cX8_bytesOfCodes 10 = .ok (.iload_n 1, 1) := by decide +kernel
theorem dX8_bytesOfCodes_11 : decode cX8_bytesOfCodes 11 = .ok (.aload_n 0, 1) := by decide +kernel
theorem dX8_bytesOfCodes_12 : decode cX8_bytesOfCodes 12 = .ok (.getfield 11, 3) := by decide +kernel
theorem dX8_bytesOfCodes_15 : decode cX8_bytesOfCodes 15 = .ok (.iload_n 2, 1) := by decide +kernel
theorem dX8_bytesOfCodes_16 : decode cX8_bytesOfCodes 16 = .ok (.aaload, 1) := by decide +kernel
theorem dX8_bytesOfCodes_17 : decode cX8_bytesOfCodes 17 = .ok (.getfield 367, 3) := by decide +kernel
theorem dX8_bytesOfCodes_20 : decode cX8_bytesOfCodes 20 = .ok (.iadd, 1) := by decide +kernel
theorem dX8_bytesOfCodes_21 : decode cX8_bytesOfCodes 21 = .ok (.istore_n 1, 1) := by decide +kernel
theorem dX8_bytesOfCodes_22 : decode cX8_bytesOfCodes 22 = .ok (.iinc 2 1, 3) := by decide +kernel
theorem dX8_bytesOfCodes_25 : decode cX8_bytesOfCodes 25 = .ok (.goto (-21), 3) := by decide +kernel
theorem dX8_bytesOfCodes_28 : decode cX8_bytesOfCodes 28 = .ok (.iload_n 1, 1) := by decide +kernel
theorem dX8_bytesOfCodes_29 : decode cX8_bytesOfCodes 29 = .ok (.ireturn, 1) := by decide +kernel
theorem dX8_sideOf_0 : decode cX8_sideOf 0 = .ok (.iload_n 0, 1) := by decide +kernel
theorem dX8_sideOf_1 : decode cX8_sideOf 1 = .ok (.bipush 10, 2) := by decide +kernel
theorem dX8_sideOf_3 : decode cX8_sideOf 3 = .ok (.idiv, 1) := by decide +kernel
theorem dX8_sideOf_4 : decode cX8_sideOf 4 = .ok (.iconst 2, 1) := by decide +kernel
theorem dX8_sideOf_5 : decode cX8_sideOf 5 = .ok (.irem, 1) := by decide +kernel
theorem dX8_sideOf_6 : decode cX8_sideOf 6 = .ok (.ireturn, 1) := by decide +kernel
theorem dX8_actOf_0 : decode cX8_actOf 0 = .ok (.iload_n 0, 1) := by decide +kernel
theorem dX8_actOf_1 : decode cX8_actOf 1 = .ok (.bipush 10, 2) := by decide +kernel
theorem dX8_actOf_3 : decode cX8_actOf 3 = .ok (.irem, 1) := by decide +kernel
theorem dX8_actOf_4 : decode cX8_actOf 4 = .ok (.ireturn, 1) := by decide +kernel
theorem dX8_isSeen_0 : decode cX8_isSeen 0 = .ok (.iload_n 0, 1) := by decide +kernel
theorem dX8_isSeen_1 : decode cX8_isSeen 1 = .ok (.ifCond .lt 13, 3) := by decide +kernel
theorem dX8_isSeen_4 : decode cX8_isSeen 4 = .ok (.iload_n 0, 1) := by decide +kernel
theorem dX8_isSeen_5 : decode cX8_isSeen 5 = .ok (.bipush 40, 2) := by decide +kernel
theorem dX8_isSeen_7 : decode cX8_isSeen 7 = .ok (.if_icmp .ge 7, 3) := by decide +kernel
theorem dX8_isSeen_10 : decode cX8_isSeen 10 = .ok (.iconst 1, 1) := by decide +kernel
theorem dX8_isSeen_11 : decode cX8_isSeen 11 = .ok (.goto 4, 3) := by decide +kernel
theorem dX8_isSeen_14 : decode cX8_isSeen 14 = .ok (.iconst 0, 1) := by decide +kernel
theorem dX8_isSeen_15 : decode cX8_isSeen 15 = .ok (.ireturn, 1) := by decide +kernel
theorem dX8_fromOwnEnd_0 : decode cX8_fromOwnEnd 0 = .ok (.iload_n 0, 1) := by decide +kernel
theorem dX8_fromOwnEnd_1 : decode cX8_fromOwnEnd 1 = .ok (.ifCond .ne 7, 3) := by decide +kernel
theorem dX8_fromOwnEnd_4 : decode cX8_fromOwnEnd 4 = .ok (.iload_n 1, 1) := by decide +kernel
theorem dX8_fromOwnEnd_5 : decode cX8_fromOwnEnd 5 = .ok (.goto 7, 3) := by decide +kernel
theorem dX8_fromOwnEnd_8 : decode cX8_fromOwnEnd 8 = .ok (.bipush 6, 2) := by decide +kernel
theorem dX8_fromOwnEnd_10 : decode cX8_fromOwnEnd 10 = .ok (.iload_n 1, 1) := by decide +kernel
theorem dX8_fromOwnEnd_11 : decode cX8_fromOwnEnd 11 = .ok (.isub, 1) := by decide +kernel
theorem dX8_fromOwnEnd_12 : decode cX8_fromOwnEnd 12 = .ok (.ireturn, 1) := by decide +kernel
theorem dX9_init_0 : decode cX9_init 0 = .ok (.aload_n 0, 1) := by decide +kernel
theorem dX9_init_1 : decode cX9_init 1 = .ok (.invokespecial 1, 3) := by decide +kernel
theorem dX9_init_4 : decode cX9_init 4 = .ok (.aload_n 0, 1) := by decide +kernel
theorem dX9_init_5 : decode cX9_init 5 = .ok (.bipush 11, 2) := by decide +kernel
theorem dX9_init_7 : decode cX9_init 7 = .ok (.newarray .int, 2) := by decide +kernel
theorem dX9_init_9 : decode cX9_init 9 = .ok (.putfield 7, 3) := by decide +kernel
theorem dX9_init_12 : decode cX9_init 12 = .ok (.aload_n 0, 1) := by decide +kernel
theorem dX9_init_13 : decode cX9_init 13 = .ok (.sipush 880, 3) := by decide +kernel
theorem dX9_init_16 : decode cX9_init 16 = .ok (.newarray .int, 2) := by decide +kernel
theorem dX9_init_18 : decode cX9_init 18 = .ok (.putfield 13, 3) := by decide +kernel
theorem dX9_init_21 : decode cX9_init 21 = .ok (.aload_n 0, 1) := by decide +kernel
theorem dX9_init_22 : decode cX9_init 22 = .ok (.bipush 11, 2) := by decide +kernel
theorem dX9_init_24 : decode cX9_init 24 = .ok (.newarray .boolean, 2) := by decide +kernel
theorem dX9_init_26 : decode cX9_init 26 = .ok (.putfield 16, 3) := by decide +kernel
theorem dX9_init_29 : decode cX9_init 29 = .ok (.aload_n 0, 1) := by decide +kernel
theorem dX9_init_30 : decode cX9_init 30 = .ok (.bipush 11, 2) := by decide +kernel
theorem dX9_init_32 : decode cX9_init 32 = .ok (.newarray .int, 2) := by decide +kernel
theorem dX9_init_34 : decode cX9_init 34 = .ok (.putfield 20, 3) := by decide +kernel
theorem dX9_init_37 : decode cX9_init 37 = .ok (.aload_n 0, 1) := by decide +kernel
theorem dX9_init_38 : decode cX9_init 38 = .ok (.sipush 187, 3) := by decide +kernel
theorem dX9_init_41 : decode cX9_init 41 = .ok (.newarray .int, 2) := by decide +kernel
theorem dX9_init_43 : decode cX9_init 43 = .ok (.putfield 23, 3) := by decide +kernel
theorem dX9_init_46 : decode cX9_init 46 = .ok (.aload_n 0, 1) := by decide +kernel
theorem dX9_init_47 : decode cX9_init 47 = .ok (.sipush 308, 3) := by decide +kernel
theorem dX9_init_50 : decode cX9_init 50 = .ok (.newarray .int, 2) := by decide +kernel
theorem dX9_init_52 : decode cX9_init 52 = .ok (.putfield 26, 3) := by decide +kernel
theorem dX9_init_55 : decode cX9_init 55 = .ok (.aload_n 0, 1) := by decide +kernel
theorem dX9_init_56 : decode cX9_init 56 = .ok (.bipush 17, 2) := by decide +kernel
theorem dX9_init_58 : decode cX9_init 58 = .ok (.newarray .int, 2) := by decide +kernel
theorem dX9_init_60 : decode cX9_init 60 = .ok (.putfield 29, 3) := by decide +kernel
theorem dX9_init_63 : decode cX9_init 63 = .ok (.aload_n 0, 1) := by decide +kernel
theorem dX9_init_64 : decode cX9_init 64 = .ok (.bipush 12, 2) := by decide +kernel
theorem dX9_init_66 : decode cX9_init 66 = .ok (.newarray .int, 2) := by decide +kernel
theorem dX9_init_68 : decode cX9_init 68 = .ok (.putfield 32, 3) := by decide +kernel
theorem dX9_init_71 : decode cX9_init 71 = .ok (.aload_n 0, 1) := by decide +kernel
theorem dX9_init_72 : decode cX9_init 72 = .ok (.sipush 480, 3) := by decide +kernel
theorem dX9_init_75 : decode cX9_init 75 = .ok (.newarray .int, 2) := by decide +kernel
theorem dX9_init_77 : decode cX9_init 77 = .ok (.putfield 35, 3) := by decide +kernel
theorem dX9_init_80 : decode cX9_init 80 = .ok (.aload_n 0, 1) := by decide +kernel
theorem dX9_init_81 : decode cX9_init 81 = .ok (.sipush 480, 3) := by decide +kernel
theorem dX9_init_84 : decode cX9_init 84 = .ok (.newarray .int, 2) := by decide +kernel
theorem dX9_init_86 : decode cX9_init 86 = .ok (.putfield 38, 3) := by decide +kernel
theorem dX9_init_89 : decode cX9_init 89 = .ok (.aload_n 0, 1) := by decide +kernel
theorem dX9_init_90 : decode cX9_init 90 = .ok (.bipush 12, 2) := by decide +kernel
theorem dX9_init_92 : decode cX9_init 92 = .ok (.newarray .boolean, 2) := by decide +kernel
theorem dX9_init_94 : decode cX9_init 94 = .ok (.putfield 41, 3) := by decide +kernel
theorem dX9_init_97 : decode cX9_init 97 = .ok (.aload_n 0, 1) := by decide +kernel
theorem dX9_init_98 : decode cX9_init 98 = .ok (.bipush 63, 2) := by decide +kernel
theorem dX9_init_100 : decode cX9_init 100 = .ok (.newarray .int, 2) := by decide +kernel
theorem dX9_init_102 : decode cX9_init 102 = .ok (.putfield 44, 3) := by decide +kernel
theorem dX9_init_105 : decode cX9_init 105 = .ok (.aload_n 0, 1) := by decide +kernel
theorem dX9_init_106 : decode cX9_init 106 = .ok (.bipush 17, 2) := by decide +kernel
theorem dX9_init_108 : decode cX9_init 108 = .ok (.newarray .int, 2) := by decide +kernel
theorem dX9_init_110 : decode cX9_init 110 = .ok (.putfield 47, 3) := by decide +kernel
theorem dX9_init_113 : decode cX9_init 113 = .ok (.aload_n 0, 1) := by decide +kernel
theorem dX9_init_114 : decode cX9_init 114 = .ok (.bipush 17, 2) := by decide +kernel
theorem dX9_init_116 : decode cX9_init 116 = .ok (.newarray .int, 2) := by decide +kernel
theorem dX9_init_118 : decode cX9_init 118 = .ok (.putfield 50, 3) := by decide +kernel
theorem dX9_init_121 : decode cX9_init 121 = .ok (.aload_n 0, 1) := by decide +kernel
theorem dX9_init_122 : decode cX9_init 122 = .ok (.bipush 6, 2) := by decide +kernel
theorem dX9_init_124 : decode cX9_init 124 = .ok (.newarray .int, 2) := by decide +kernel
theorem dX9_init_126 : decode cX9_init 126 = .ok (.putfield 53, 3) := by decide +kernel
theorem dX9_init_129 : decode cX9_init 129 = .ok (.aload_n 0, 1) := by decide +kernel
theorem dX9_init_130 : decode cX9_init 130 = .ok (.bipush 12, 2) := by decide +kernel
theorem dX9_init_132 : decode cX9_init 132 = .ok (.newarray .int, 2) := by decide +kernel
theorem dX9_init_134 : decode cX9_init 134 = .ok (.putfield 56, 3) := by decide +kernel
theorem dX9_init_137 : decode cX9_init 137 = .ok (.aload_n 0, 1) := by decide +kernel
theorem dX9_init_138 : decode cX9_init 138 = .ok (.bipush 12, 2) := by decide +kernel
theorem dX9_init_140 : decode cX9_init 140 = .ok (.newarray .int, 2) := by decide +kernel
theorem dX9_init_142 : decode cX9_init 142 = .ok (.putfield 59, 3) := by decide +kernel
theorem dX9_init_145 : decode cX9_init 145 = .ok (.aload_n 0, 1) := by decide +kernel
theorem dX9_init_146 : decode cX9_init 146 = .ok (.bipush 12, 2) := by decide +kernel
theorem dX9_init_148 : decode cX9_init 148 = .ok (.newarray .boolean, 2) := by decide +kernel
theorem dX9_init_150 : decode cX9_init 150 = .ok (.putfield 62, 3) := by decide +kernel
theorem dX9_init_153 : decode cX9_init 153 = .ok (.aload_n 0, 1) := by decide +kernel
theorem dX9_init_154 : decode cX9_init 154 = .ok (.bipush 17, 2) := by decide +kernel
theorem dX9_init_156 : decode cX9_init 156 = .ok (.newarray .int, 2) := by decide +kernel
theorem dX9_init_158 : decode cX9_init 158 = .ok (.putfield 65, 3) := by decide +kernel
theorem dX9_init_161 : decode cX9_init 161 = .ok (.aload_n 0, 1) := by decide +kernel
theorem dX9_init_162 : decode cX9_init 162 = .ok (.iconst 2, 1) := by decide +kernel
theorem dX9_init_163 : decode cX9_init 163 = .ok (.putfield 68, 3) := by decide +kernel
theorem dX9_init_166 : decode cX9_init 166 = .ok (.aload_n 0, 1) := by decide +kernel
theorem dX9_init_167 : decode cX9_init 167 = .ok (.iconst 3, 1) := by decide +kernel
theorem dX9_init_168 : decode cX9_init 168 = .ok (.putfield 72, 3) := by decide +kernel
theorem dX9_init_171 : decode cX9_init 171 = .ok (.aload_n 0, 1) := by decide +kernel
theorem dX9_init_172 : decode cX9_init 172 = .ok (.iconst 1, 1) := by decide +kernel
theorem dX9_init_173 : decode cX9_init 173 = .ok (.putfield 75, 3) := by decide +kernel
theorem dX9_init_176 : decode cX9_init 176 = .ok (.aload_n 0, 1) := by decide +kernel
theorem dX9_init_177 : decode cX9_init 177 = .ok (.sipush 144, 3) := by decide +kernel
theorem dX9_init_180 : decode cX9_init 180 = .ok (.newarray .int, 2) := by decide +kernel
theorem dX9_init_182 : decode cX9_init 182 = .ok (.putfield 78, 3) := by decide +kernel
theorem dX9_init_185 : decode cX9_init 185 = .ok (.aload_n 0, 1) := by decide +kernel
theorem dX9_init_186 : decode cX9_init 186 = .ok (.sipush 4096, 3) := by decide +kernel
theorem dX9_init_189 : decode cX9_init 189 = .ok (.newarray .int, 2) := by decide +kernel
theorem dX9_init_191 : decode cX9_init 191 = .ok (.putfield 81, 3) := by decide +kernel
theorem dX9_init_194 : decode cX9_init 194 = .ok (.aload_n 0, 1) := by decide +kernel
theorem dX9_init_195 : decode cX9_init 195 = .ok (.sipush 4096, 3) := by decide +kernel
theorem dX9_init_198 : decode cX9_init 198 = .ok (.newarray .int, 2) := by decide +kernel
theorem dX9_init_200 : decode cX9_init 200 = .ok (.putfield 84, 3) := by decide +kernel
theorem dX9_init_203 : decode cX9_init 203 = .ok (.aload_n 0, 1) := by decide +kernel
theorem dX9_init_204 : decode cX9_init 204 = .ok (.iconst 4, 1) := by decide +kernel
theorem dX9_init_205 : decode cX9_init 205 = .ok (.newarray .boolean, 2) := by decide +kernel
theorem dX9_init_207 : decode cX9_init 207 = .ok (.putfield 87, 3) := by decide +kernel
theorem dX9_init_210 : decode cX9_init 210 = .ok (.aload_n 0, 1) := by decide +kernel
theorem dX9_init_211 : decode cX9_init 211 = .ok (.iconst 4, 1) := by decide +kernel
theorem dX9_init_212 : decode cX9_init 212 = .ok (.newarray .int, 2) := by decide +kernel
theorem dX9_init_214 : decode cX9_init 214 = .ok (.putfield 90, 3) := by decide +kernel
theorem dX9_init_217 : decode cX9_init 217 = .ok (.aload_n 0, 1) := by decide +kernel
theorem dX9_init_218 : decode cX9_init 218 = .ok (.iconst 4, 1) := by decide +kernel
theorem dX9_init_219 : decode cX9_init 219 = .ok (.newarray .int, 2) := by decide +kernel
theorem dX9_init_221 : decode cX9_init 221 = .ok (.putfield 93, 3) := by decide +kernel
theorem dX9_init_224 : decode cX9_init 224 = .ok (.aload_n 0, 1) := by decide +kernel
theorem dX9_init_225 : decode cX9_init 225 = .ok (.sipush 240, 3) := by decide +kernel
theorem dX9_init_228 : decode cX9_init 228 = .ok (.newarray .int, 2) := by decide +kernel
theorem dX9_init_230 : decode cX9_init 230 = .ok (.putfield 96, 3) := by decide +kernel
theorem dX9_init_233 : decode cX9_init 233 = .ok (.aload_n 0, 1) := by decide +kernel
theorem dX9_init_234 : decode cX9_init 234 = .ok (.bipush 60, 2) := by decide +kernel
theorem dX9_init_236 : decode cX9_init 236 = .ok (.newarray .int, 2) := by decide +kernel
theorem dX9_init_238 : decode cX9_init 238 = .ok (.putfield 99, 3) := by decide +kernel
theorem dX9_init_241 : decode cX9_init 241 = .ok (.iconst 0, 1) := by decide +kernel
theorem dX9_init_242 : decode cX9_init 242 = .ok (.istore_n 1, 1) := by decide +kernel
theorem dX9_init_243 : decode cX9_init 243 = .ok (.iload_n 1, 1) := by decide +kernel
theorem dX9_init_244 : decode cX9_init 244 = .ok (.bipush 17, 2) := by decide +kernel
theorem dX9_init_246 : decode cX9_init 246 = .ok (.if_icmp .ge 19, 3) := by decide +kernel
theorem dX9_init_249 : decode cX9_init 249 = .ok (.aload_n 0, 1) := by decide +kernel
theorem dX9_init_250 : decode cX9_init 250 = .ok (.getfield 65, 3) := by decide +kernel
theorem dX9_init_253 : decode cX9_init 253 = .ok (.iload_n 1, 1) := by decide +kernel
theorem dX9_init_254 : decode cX9_init 254 = .ok (.iload_n 1, 1) := by decide +kernel
theorem dX9_init_255 : decode cX9_init 255 = .ok (.invokestatic 102, 3) := by decide +kernel
theorem dX9_init_258 : decode cX9_init 258 = .ok (.iastore, 1) := by decide +kernel
theorem dX9_init_259 : decode cX9_init 259 = .ok (.iinc 1 1, 3) := by decide +kernel
theorem dX9_init_262 : decode cX9_init 262 = .ok (.goto (-19), 3) := by decide +kernel
theorem dX9_init_265 : decode cX9_init 265 = .ok (.iconst 0, 1) := by decide +kernel
theorem dX9_init_266 : decode cX9_init 266 = .ok (.istore_n 1, 1) := by decide +kernel
theorem dX9_init_267 : decode cX9_init 267 = .ok (.iload_n 1, 1) := by decide +kernel
theorem dX9_init_268 : decode cX9_init 268 = .ok (.sipush 144, 3) := by decide +kernel
theorem dX9_init_271 : decode cX9_init 271 = .ok (.if_icmp .ge 32, 3) := by decide +kernel
theorem dX9_init_274 : decode cX9_init 274 = .ok (.aload_n 0, 1) := by decide +kernel
theorem dX9_init_275 : decode cX9_init 275 = .ok (.getfield 78, 3) := by decide +kernel
theorem dX9_init_278 : decode cX9_init 278 = .ok (.iload_n 1, 1) := by decide +kernel
theorem dX9_init_279 : decode cX9_init 279 = .ok (.iload_n 1, 1) := by decide +kernel
theorem dX9_init_280 : decode cX9_init 280 = .ok (.bipush 12, 2) := by decide +kernel
theorem dX9_init_282 : decode cX9_init 282 = .ok (.idiv, 1) := by decide +kernel
theorem dX9_init_283 : decode cX9_init 283 = .ok (.iload_n 1, 1) := by decide +kernel
theorem dX9_init_284 : decode cX9_init 284 = .ok (.bipush 12, 2) := by decide +kernel
theorem dX9_init_286 : decode cX9_init 286 = .ok (.irem, 1) := by decide +kernel
theorem dX9_init_287 : decode cX9_init 287 = .ok (.if_icmp .ne 7, 3) := by decide +kernel
theorem dX9_init_290 : decode cX9_init 290 = .ok (.iconst 0, 1) := by decide +kernel
theorem dX9_init_291 : decode cX9_init 291 = .ok (.goto 5, 3) := by decide +kernel
theorem dX9_init_294 : decode cX9_init 294 = .ok (.bipush 50, 2) := by decide +kernel
theorem dX9_init_296 : decode cX9_init 296 = .ok (.iastore, 1) := by decide +kernel
theorem dX9_init_297 : decode cX9_init 297 = .ok (.iinc 1 1, 3) := by decide +kernel
theorem dX9_init_300 : decode cX9_init 300 = .ok (.goto (-33), 3) := by decide +kernel
theorem dX9_init_303 : decode cX9_init 303 = .ok (.return_, 1) := by decide +kernel
theorem dX9_in_0 : decode cX9_in 0 = .ok (.iload_n 0, 1) := by decide +kernel
theorem dX9_in_1 : decode cX9_in 1 = .ok (.iload_n 1, 1) := by decide +kernel
theorem dX9_in_2 : decode cX9_in 2 = .ok (.if_icmp .lt 12, 3) := by decide +kernel
theorem dX9_in_5 : decode cX9_in 5 = .ok (.iload_n 0, 1) := by decide +kernel
theorem dX9_in_6 : decode cX9_in 6 = .ok (.iload_n 2, 1) := by decide +kernel
theorem dX9_in_7 : decode cX9_in 7 = .ok (.if_icmp .gt 7, 3) := by decide +kernel
theorem dX9_in_10 : decode cX9_in 10 = .ok (.iconst 1, 1) := by decide +kernel
theorem dX9_in_11 : decode cX9_in 11 = .ok (.goto 4, 3) := by decide +kernel
theorem dX9_in_14 : decode cX9_in 14 = .ok (.iconst 0, 1) := by decide +kernel
theorem dX9_in_15 : decode cX9_in 15 = .ok (.ireturn, 1) := by decide +kernel
theorem dX9_ones_0 : decode cX9_ones 0 = .ok (.iconst 0, 1) := by decide +kernel
theorem dX9_ones_1 : decode cX9_ones 1 = .ok (.istore_n 1, 1) := by decide +kernel
theorem dX9_ones_2 : decode cX9_ones 2 = .ok (.iconst 0, 1) := by decide +kernel
theorem dX9_ones_3 : decode cX9_ones 3 = .ok (.istore_n 2, 1) := by decide +kernel
theorem dX9_ones_4 : decode cX9_ones 4 = .ok (.iload_n 2, 1) := by decide +kernel
theorem dX9_ones_5 : decode cX9_ones 5 = .ok (.bipush 17, 2) := by decide +kernel
theorem dX9_ones_7 : decode cX9_ones 7 = .ok (.if_icmp .ge 17, 3) := by decide +kernel
theorem dX9_ones_10 : decode cX9_ones 10 = .ok (.iload_n 1, 1) := by decide +kernel
theorem dX9_ones_11 : decode cX9_ones 11 = .ok (.iload_n 0, 1) := by decide +kernel
theorem dX9_ones_12 : decode cX9_ones 12 = .ok (.iload_n 2, 1) := by decide +kernel
theorem dX9_ones_13 : decode cX9_ones 13 = .ok (.ishr, 1) := by decide +kernel
theorem dX9_ones_14 : decode cX9_ones 14 = .ok (.iconst 1, 1) := by decide +kernel
theorem dX9_ones_15 : decode cX9_ones 15 = .ok (.iand, 1) := by decide +kernel
theorem dX9_ones_16 : decode cX9_ones 16 = .ok (.iadd, 1) := by decide +kernel
theorem dX9_ones_17 : decode cX9_ones 17 = .ok (.istore_n 1, 1) := by decide +kernel
theorem dX9_ones_18 : decode cX9_ones 18 = .ok (.iinc 2 1, 3) := by decide +kernel
theorem dX9_ones_21 : decode cX9_ones 21 = .ok (.goto (-17), 3) := by decide +kernel
theorem dX9_ones_24 : decode cX9_ones 24 = .ok (.iload_n 1, 1) := by decide +kernel
theorem dX9_ones_25 : decode cX9_ones 25 = .ok (.ireturn, 1) := by decide +kernel
theorem dX9_plain_0 : decode cX9_plain 0 = .ok (.iload_n 0, 1) := by decide +kernel
theorem dX9_plain_1 : decode cX9_plain 1 = .ok (.bipush 10, 2) := by decide +kernel
theorem dX9_plain_3 : decode cX9_plain 3 = .ok (.if_icmp .ge 8, 3) := by decide +kernel
theorem dX9_plain_6 : decode cX9_plain 6 = .ok (.bipush 127, 2) := by decide +kernel
theorem dX9_plain_8 : decode cX9_plain 8 = .ok (.goto 31, 3) := by decide +kernel
theorem dX9_plain_11 : decode cX9_plain 11 = .ok (.iload_n 0, 1) := by decide +kernel
theorem dX9_plain_12 : decode cX9_plain 12 = .ok (.bipush 11, 2) := by decide +kernel
theorem dX9_plain_14 : decode cX9_plain 14 = .ok (.if_icmp .eq 9, 3) := by decide +kernel
theorem dX9_plain_17 : decode cX9_plain 17 = .ok (.iload_n 0, 1) := by decide +kernel
theorem dX9_plain_18 : decode cX9_plain 18 = .ok (.bipush 12, 2) := by decide +kernel
theorem dX9_plain_20 : decode cX9_plain 20 = .ok (.if_icmp .ne 7, 3) := by decide +kernel
theorem dX9_plain_23 : decode cX9_plain 23 = .ok (.iconst 1, 1) := by decide +kernel
theorem dX9_plain_24 : decode cX9_plain 24 = .ok (.goto 15, 3) := by decide +kernel
theorem dX9_plain_27 : decode cX9_plain 27 = .ok (.iload_n 0, 1) := by decide +kernel
theorem dX9_plain_28 : decode cX9_plain 28 = .ok (.bipush 16, 2) := by decide +kernel
theorem dX9_plain_30 : decode cX9_plain 30 = .ok (.if_icmp .ne 8, 3) := by decide +kernel
theorem dX9_plain_33 : decode cX9_plain 33 = .ok (.bipush 99, 2) := by decide +kernel
theorem dX9_plain_35 : decode cX9_plain 35 = .ok (.goto 4, 3) := by decide +kernel
theorem dX9_plain_38 : decode cX9_plain 38 = .ok (.iconst 0, 1) := by decide +kernel
theorem dX9_plain_39 : decode cX9_plain 39 = .ok (.ireturn, 1) := by decide +kernel
theorem dX9_isCode_0 : decode cX9_isCode 0 = .ok (.iload_n 0, 1) := by decide +kernel
theorem dX9_isCode_1 : decode cX9_isCode 1 = .ok (.iconst 0, 1) := by decide +kernel
theorem dX9_isCode_2 : decode cX9_isCode 2 = .ok (.bipush 10, 2) := by decide +kernel
theorem dX9_isCode_4 : decode cX9_isCode 4 = .ok (.invokestatic 106, 3) := by decide +kernel
theorem dX9_isCode_7 : decode cX9_isCode 7 = .ok (.ireturn, 1) := by decide +kernel
theorem dX9_type_0 : decode cX9_type 0 = .ok (.iload_n 1, 1) := by decide +kernel
theorem dX9_type_1 : decode cX9_type 1 = .ok (.invokestatic 110, 3) := by decide +kernel
theorem dX9_type_4 : decode cX9_type 4 = .ok (.ifCond .eq 14, 3) := by decide +kernel
theorem dX9_type_7 : decode cX9_type 7 = .ok (.iload_n 2, 1) := by decide +kernel
theorem dX9_type_8 : decode cX9_type 8 = .ok (.iconst 0, 1) := by decide +kernel
theorem dX9_type_9 : decode cX9_type 9 = .ok (.sipush 255, 3) := by decide +kernel
theorem dX9_type_12 : decode cX9_type 12 = .ok (.invokestatic 106, 3) := by decide +kernel
theorem dX9_type_15 : decode cX9_type 15 = .ok (.ifCond .ne 6, 3) := by decide +kernel
theorem dX9_type_18 : decode cX9_type 18 = .ok (.bipush (-2), 2) := by decide +kernel
theorem dX9_type_20 : decode cX9_type 20 = .ok (.ireturn, 1) := by decide +kernel
theorem dX9_type_21 : decode cX9_type 21 = .ok (.aload_n 0, 1) := by decide +kernel
theorem dX9_type_22 : decode cX9_type 22 = .ok (.getfield 7, 3) := by decide +kernel
theorem dX9_type_25 : decode cX9_type 25 = .ok (.iload_n 1, 1) := by decide +kernel
theorem dX9_type_26 : decode cX9_type 26 = .ok (.iaload, 1) := by decide +kernel
theorem dX9_type_27 : decode cX9_type 27 = .ok (.bipush 80, 2) := by decide +kernel
theorem dX9_type_29 : decode cX9_type 29 = .ok (.if_icmp .ne 6, 3) := by decide +kernel
theorem dX9_type_32 : decode cX9_type 32 = .ok (.bipush (-4), 2) := by decide +kernel
theorem dX9_type_34 : decode cX9_type 34 = .ok (.ireturn, 1) := by decide +kernel
theorem dX9_type_35 : decode cX9_type 35 = .ok (.aload_n 0, 1) := by decide +kernel
theorem dX9_type_36 : decode cX9_type 36 = .ok (.getfield 13, 3) := by decide +kernel
theorem dX9_type_39 : decode cX9_type 39 = .ok (.bipush 80, 2) := by decide +kernel
theorem dX9_type_41 : decode cX9_type 41 = .ok (.iload_n 1, 1) := by decide +kernel
theorem dX9_type_42 : decode cX9_type 42 = .ok (.imul, 1) := by decide +kernel
theorem dX9_type_43 : decode cX9_type 43 = .ok (.aload_n 0, 1) := by decide +kernel
theorem dX9_type_44 : decode cX9_type 44 = .ok (.getfield 7, 3) := by decide +kernel
theorem dX9_type_47 : decode cX9_type 47 = .ok (.iload_n 1, 1) := by decide +kernel
theorem dX9_type_48 : decode cX9_type 48 = .ok (.iaload, 1) := by decide +kernel
theorem dX9_type_49 : decode cX9_type 49 = .ok (.iadd, 1) := by decide +kernel
theorem dX9_type_50 : decode cX9_type 50 = .ok (.iload_n 2, 1) := by decide +kernel
theorem dX9_type_51 : decode cX9_type 51 = .ok (.iastore, 1) := by decide +kernel
theorem dX9_type_52 : decode cX9_type 52 = .ok (.aload_n 0, 1) := by decide +kernel
theorem dX9_type_53 : decode cX9_type 53 = .ok (.getfield 7, 3) := by decide +kernel
theorem dX9_type_56 : decode cX9_type 56 = .ok (.iload_n 1, 1) := by decide +kernel
theorem dX9_type_57 : decode cX9_type 57 = .ok (.dup2, 1) := by decide +kernel
theorem dX9_type_58 : decode cX9_type 58 = .ok (.iaload, 1) := by decide +kernel
theorem dX9_type_59 : decode cX9_type 59 = .ok (.iconst 1, 1) := by decide +kernel
theorem dX9_type_60 : decode cX9_type 60 = .ok (.iadd, 1) := by decide +kernel
theorem dX9_type_61 : decode cX9_type 61 = .ok (.iastore, 1) := by decide +kernel
theorem dX9_type_62 : decode cX9_type 62 = .ok (.aload_n 0, 1) := by decide +kernel
theorem dX9_type_63 : decode cX9_type 63 = .ok (.getfield 16, 3) := by decide +kernel
theorem dX9_type_66 : decode cX9_type 66 = .ok (.iload_n 1, 1) := by decide +kernel
theorem dX9_type_67 : decode cX9_type 67 = .ok (.iconst 0, 1) := by decide +kernel
theorem dX9_type_68 : decode cX9_type 68 = .ok (.bastore, 1) := by decide +kernel
theorem dX9_type_69 : decode cX9_type 69 = .ok (.aload_n 0, 1) := by decide +kernel
theorem dX9_type_70 : decode cX9_type 70 = .ok (.getfield 7, 3) := by decide +kernel
theorem dX9_type_73 : decode cX9_type 73 = .ok (.iload_n 1, 1) := by decide +kernel
theorem dX9_type_74 : decode cX9_type 74 = .ok (.iaload, 1) := by decide +kernel
theorem dX9_type_75 : decode cX9_type 75 = .ok (.ireturn, 1) := by decide +kernel
theorem dX9_wipe_0 : decode cX9_wipe 0 = .ok (.iload_n 1, 1) := by decide +kernel
theorem dX9_wipe_1 : decode cX9_wipe 1 = .ok (.invokestatic 110, 3) := by decide +kernel
theorem dX9_wipe_4 : decode cX9_wipe 4 = .ok (.ifCond .ne 6, 3) := by decide +kernel
theorem dX9_wipe_7 : decode cX9_wipe 7 = .ok (.bipush (-2), 2) := by decide +kernel
theorem dX9_wipe_9 : decode cX9_wipe 9 = .ok (.ireturn, 1) := by decide +kernel
theorem dX9_wipe_10 : decode cX9_wipe 10 = .ok (.aload_n 0, 1) := by decide +kernel
theorem dX9_wipe_11 : decode cX9_wipe 11 = .ok (.getfield 7, 3) := by decide +kernel
theorem dX9_wipe_14 : decode cX9_wipe 14 = .ok (.iload_n 1, 1) := by decide +kernel
theorem dX9_wipe_15 : decode cX9_wipe 15 = .ok (.iaload, 1) := by decide +kernel
theorem dX9_wipe_16 : decode cX9_wipe 16 = .ok (.istore_n 2, 1) := by decide +kernel
theorem dX9_wipe_17 : decode cX9_wipe 17 = .ok (.aload_n 0, 1) := by decide +kernel
theorem dX9_wipe_18 : decode cX9_wipe 18 = .ok (.getfield 7, 3) := by decide +kernel
theorem dX9_wipe_21 : decode cX9_wipe 21 = .ok (.iload_n 1, 1) := by decide +kernel
theorem dX9_wipe_22 : decode cX9_wipe 22 = .ok (.iconst 0, 1) := by decide +kernel
theorem dX9_wipe_23 : decode cX9_wipe 23 = .ok (.iastore, 1) := by decide +kernel
theorem dX9_wipe_24 : decode cX9_wipe 24 = .ok (.aload_n 0, 1) := by decide +kernel
theorem dX9_wipe_25 : decode cX9_wipe 25 = .ok (.getfield 16, 3) := by decide +kernel
theorem dX9_wipe_28 : decode cX9_wipe 28 = .ok (.iload_n 1, 1) := by decide +kernel
theorem dX9_wipe_29 : decode cX9_wipe 29 = .ok (.iconst 0, 1) := by decide +kernel
theorem dX9_wipe_30 : decode cX9_wipe 30 = .ok (.bastore, 1) := by decide +kernel
theorem dX9_wipe_31 : decode cX9_wipe 31 = .ok (.iload_n 2, 1) := by decide +kernel
theorem dX9_wipe_32 : decode cX9_wipe 32 = .ok (.ireturn, 1) := by decide +kernel
theorem dX9_byteNow_0 : decode cX9_byteNow 0 = .ok (.aload_n 0, 1) := by decide +kernel
theorem dX9_byteNow_1 : decode cX9_byteNow 1 = .ok (.getfield 114, 3) := by decide +kernel
theorem dX9_byteNow_4 : decode cX9_byteNow 4 = .ok (.aload_n 0, 1) := by decide +kernel
theorem dX9_byteNow_5 : decode cX9_byteNow 5 = .ok (.getfield 7, 3) := by decide +kernel
theorem dX9_byteNow_8 : decode cX9_byteNow 8 = .ok (.aload_n 0, 1) := by decide +kernel
theorem dX9_byteNow_9 : decode cX9_byteNow 9 = .ok (.getfield 117, 3) := by decide +kernel
theorem dX9_byteNow_12 : decode cX9_byteNow 12 = .ok (.iaload, 1) := by decide +kernel
theorem dX9_byteNow_13 : decode cX9_byteNow 13 = .ok (.if_icmp .ge 23, 3) := by decide +kernel
theorem dX9_byteNow_16 : decode cX9_byteNow 16 = .ok (.aload_n 0, 1) := by decide +kernel
theorem dX9_byteNow_17 : decode cX9_byteNow 17 = .ok (.getfield 13, 3) := by decide +kernel
theorem dX9_byteNow_20 : decode cX9_byteNow 20 = .ok (.bipush 80, 2) := by decide +kernel
theorem dX9_byteNow_22 : decode cX9_byteNow 22 = .ok (.aload_n 0, 1) := by decide +kernel
theorem dX9_byteNow_23 : decode cX9_byteNow 23 = .ok (.getfield 117, 3) := by decide +kernel
theorem dX9_byteNow_26 : decode cX9_byteNow 26 = .ok (.imul, 1) := by decide +kernel
theorem dX9_byteNow_27 : decode cX9_byteNow 27 = .ok (.aload_n 0, 1) := by decide +kernel
theorem dX9_byteNow_28 : decode cX9_byteNow 28 = .ok (.getfield 114, 3) := by decide +kernel
theorem dX9_byteNow_31 : decode cX9_byteNow 31 = .ok (.iadd, 1) := by decide +kernel
theorem dX9_byteNow_32 : decode cX9_byteNow 32 = .ok (.iaload, 1) := by decide +kernel
theorem dX9_byteNow_33 : decode cX9_byteNow 33 = .ok (.goto 4, 3) := by decide +kernel
theorem dX9_byteNow_36 : decode cX9_byteNow 36 = .ok (.iconst (-1), 1) := by decide +kernel
theorem dX9_byteNow_37 : decode cX9_byteNow 37 = .ok (.ireturn, 1) := by decide +kernel
theorem dX9_figures_0 : decode cX9_figures 0 = .ok (.aload_n 0, 1) := by decide +kernel
theorem dX9_figures_1 : decode cX9_figures 1 = .ok (.getfield 114, 3) := by decide +kernel
theorem dX9_figures_4 : decode cX9_figures 4 = .ok (.istore 4, 2) := by decide +kernel
theorem dX9_figures_6 : decode cX9_figures 6 = .ok (.iconst 0, 1) := by decide +kernel
theorem dX9_figures_7 : decode cX9_figures 7 = .ok (.istore 5, 2) := by decide +kernel
theorem dX9_figures_9 : decode cX9_figures 9 = .ok (.aload_n 0, 1) := by decide +kernel
theorem dX9_figures_10 : decode cX9_figures 10 = .ok (.getfield 120, 3) := by decide +kernel
theorem dX9_figures_13 : decode cX9_figures 13 = .ok (.iconst (-1), 1) := by decide +kernel
theorem dX9_figures_14 : decode cX9_figures 14 = .ok (.if_icmp .ne 60, 3) := by decide +kernel
theorem dX9_figures_17 : decode cX9_figures 17 = .ok (.aload_n 0, 1) := by decide +kernel
theorem dX9_figures_18 : decode cX9_figures 18 = .ok (.getfield 114, 3) := by decide +kernel
theorem dX9_figures_21 : decode cX9_figures 21 = .ok (.iload 4, 2) := by decide +kernel
theorem dX9_figures_23 : decode cX9_figures 23 = .ok (.iload_n 1, 1) := by decide +kernel
theorem dX9_figures_24 : decode cX9_figures 24 = .ok (.iadd, 1) := by decide +kernel
theorem dX9_figures_25 : decode cX9_figures 25 = .ok (.if_icmp .ge 49, 3) := by decide +kernel
theorem dX9_figures_28 : decode cX9_figures 28 = .ok (.aload_n 0, 1) := by decide +kernel
theorem dX9_figures_29 : decode cX9_figures 29 = .ok (.invokevirtual 123, 3) := by decide +kernel
theorem dX9_figures_32 : decode cX9_figures 32 = .ok (.bipush 48, 2) := by decide +kernel
theorem dX9_figures_34 : decode cX9_figures 34 = .ok (.if_icmp .lt 40, 3) := by decide +kernel
theorem dX9_figures_37 : decode cX9_figures 37 = .ok (.aload_n 0, 1) := by decide +kernel
theorem dX9_figures_38 : decode cX9_figures 38 = .ok (.invokevirtual 123, 3) := by decide +kernel
theorem dX9_figures_41 : decode cX9_figures 41 = .ok (.bipush 57, 2) := by decide +kernel
theorem dX9_figures_43 : decode cX9_figures 43 = .ok (.if_icmp .gt 31, 3) := by decide +kernel
theorem dX9_figures_46 : decode cX9_figures 46 = .ok (.bipush 10, 2) := by decide +kernel
theorem dX9_figures_48 : decode cX9_figures 48 = .ok (.iload 5, 2) := by decide +kernel
theorem dX9_figures_50 : decode cX9_figures 50 = .ok (.imul, 1) := by decide +kernel
theorem dX9_figures_51 : decode cX9_figures 51 = .ok (.aload_n 0, 1) := by decide +kernel
theorem dX9_figures_52 : decode cX9_figures 52 = .ok (.invokevirtual 123, 3) := by decide +kernel
theorem dX9_figures_55 : decode cX9_figures 55 = .ok (.iadd, 1) := by decide +kernel
theorem dX9_figures_56 : decode cX9_figures 56 = .ok (.bipush 48, 2) := by decide +kernel
theorem dX9_figures_58 : decode cX9_figures 58 = .ok (.isub, 1) := by decide +kernel
theorem dX9_figures_59 : decode cX9_figures 59 = .ok (.istore 5, 2) := by decide +kernel
theorem dX9_figures_61 : decode cX9_figures 61 = .ok (.aload_n 0, 1) := by decide +kernel
theorem dX9_figures_62 : decode cX9_figures 62 = .ok (.dup, 1) := by decide +kernel
theorem dX9_figures_63 : decode cX9_figures 63 = .ok (.getfield 114, 3) := by decide +kernel
theorem dX9_figures_66 : decode cX9_figures 66 = .ok (.iconst 1, 1) := by decide +kernel
theorem dX9_figures_67 : decode cX9_figures 67 = .ok (.iadd, 1) := by decide +kernel
theorem dX9_figures_68 : decode cX9_figures 68 = .ok (.putfield 114, 3) := by decide +kernel
theorem dX9_figures_71 : decode cX9_figures 71 = .ok (.goto (-62), 3) := by decide +kernel
theorem dX9_figures_74 : decode cX9_figures 74 = .ok (.aload_n 0, 1) := by decide +kernel
theorem dX9_figures_75 : decode cX9_figures 75 = .ok (.getfield 120, 3) := by decide +kernel
theorem dX9_figures_78 : decode cX9_figures 78 = .ok (.iconst (-1), 1) := by decide +kernel
theorem dX9_figures_79 : decode cX9_figures 79 = .ok (.if_icmp .ne 28, 3) := by decide +kernel
theorem dX9_figures_82 : decode cX9_figures 82 = .ok (.aload_n 0, 1) := by decide +kernel
theorem dX9_figures_83 : decode cX9_figures 83 = .ok (.getfield 114, 3) := by decide +kernel
theorem dX9_figures_86 : decode cX9_figures 86 = .ok (.iload 4, 2) := by decide +kernel
theorem dX9_figures_88 : decode cX9_figures 88 = .ok (.if_icmp .eq 13, 3) := by decide +kernel
theorem dX9_figures_91 : decode cX9_figures 91 = .ok (.iload 5, 2) := by decide +kernel
theorem dX9_figures_93 : decode cX9_figures 93 = .ok (.iload_n 2, 1) := by decide +kernel
theorem dX9_figures_94 : decode cX9_figures 94 = .ok (.iload_n 3, 1) := by decide +kernel
theorem dX9_figures_95 : decode cX9_figures 95 = .ok (.invokestatic 106, 3) := by decide +kernel
theorem dX9_figures_98 : decode cX9_figures 98 = .ok (.ifCond .ne 9, 3) := by decide +kernel
theorem dX9_figures_101 : decode cX9_figures 101 = .ok (.aload_n 0, 1) := by decide +kernel
theorem dX9_figures_102 : decode cX9_figures 102 = .ok (.iload 4, 2) := by decide +kernel
theorem dX9_figures_104 : decode cX9_figures 104 = .ok (.putfield 120, 3) := by decide +kernel
theorem dX9_figures_107 : decode cX9_figures 107 = .ok (.iload 5, 2) := by decide +kernel
theorem dX9_figures_109 : decode cX9_figures 109 = .ok (.ireturn, 1) := by decide +kernel
theorem dX9_cellsTold_0 : decode cX9_cellsTold 0 = .ok (.aload_n 0, 1) := by decide +kernel
theorem dX9_cellsTold_1 : decode cX9_cellsTold 1 = .ok (.getfield 120, 3) := by decide +kernel
theorem dX9_cellsTold_4 : decode cX9_cellsTold 4 = .ok (.iconst (-1), 1) := by decide +kernel
theorem dX9_cellsTold_5 : decode cX9_cellsTold 5 = .ok (.if_icmp .ne 21, 3) := by decide +kernel
theorem dX9_cellsTold_8 : decode cX9_cellsTold 8 = .ok (.aload_n 0, 1) := by decide +kernel
theorem dX9_cellsTold_9 : decode cX9_cellsTold 9 = .ok (.invokevirtual 123, 3) := by decide +kernel
theorem dX9_cellsTold_12 : decode cX9_cellsTold 12 = .ok (.bipush 48, 2) := by decide +kernel
theorem dX9_cellsTold_14 : decode cX9_cellsTold 14 = .ok (.if_icmp .lt 12, 3) := by decide +kernel
theorem dX9_cellsTold_17 : decode cX9_cellsTold 17 = .ok (.aload_n 0, 1) := by decide +kernel
theorem dX9_cellsTold_18 : decode cX9_cellsTold 18 = .ok (.invokevirtual 123, 3) := by decide +kernel
theorem dX9_cellsTold_21 : decode cX9_cellsTold 21 = .ok (.bipush 57, 2) := by decide +kernel
theorem dX9_cellsTold_23 : decode cX9_cellsTold 23 = .ok (.if_icmp .le 6, 3) := by decide +kernel
theorem dX9_cellsTold_26 : decode cX9_cellsTold 26 = .ok (.bipush 127, 2) := by decide +kernel
theorem dX9_cellsTold_28 : decode cX9_cellsTold 28 = .ok (.ireturn, 1) := by decide +kernel
theorem dX9_cellsTold_29 : decode cX9_cellsTold 29 = .ok (.aload_n 0, 1) := by decide +kernel
theorem dX9_cellsTold_30 : decode cX9_cellsTold 30 = .ok (.iconst 1, 1) := by decide +kernel
theorem dX9_cellsTold_31 : decode cX9_cellsTold 31 = .ok (.iconst 0, 1) := by decide +kernel
theorem dX9_cellsTold_32 : decode cX9_cellsTold 32 = .ok (.bipush 6, 2) := by decide +kernel
theorem dX9_cellsTold_34 : decode cX9_cellsTold 34 = .ok (.invokevirtual 127, 3) := by decide +kernel
theorem dX9_cellsTold_37 : decode cX9_cellsTold 37 = .ok (.istore_n 1, 1) := by decide +kernel
theorem dX9_cellsTold_38 : decode cX9_cellsTold 38 = .ok (.aload_n 0, 1) := by decide +kernel
theorem dX9_cellsTold_39 : decode cX9_cellsTold 39 = .ok (.getfield 120, 3) := by decide +kernel
theorem dX9_cellsTold_42 : decode cX9_cellsTold 42 = .ok (.iconst (-1), 1) := by decide +kernel
theorem dX9_cellsTold_43 : decode cX9_cellsTold 43 = .ok (.if_icmp .ne 20, 3) := by decide +kernel
theorem dX9_cellsTold_46 : decode cX9_cellsTold 46 = .ok (.aload_n 0, 1) := by decide +kernel
theorem dX9_cellsTold_47 : decode cX9_cellsTold 47 = .ok (.invokevirtual 123, 3) := by decide +kernel
theorem dX9_cellsTold_50 : decode cX9_cellsTold 50 = .ok (.bipush 45, 2) := by decide +kernel
theorem dX9_cellsTold_52 : decode cX9_cellsTold 52 = .ok (.if_icmp .eq 11, 3) := by decide +kernel
theorem dX9_cellsTold_55 : decode cX9_cellsTold 55 = .ok (.aload_n 0, 1) := by decide +kernel
theorem dX9_cellsTold_56 : decode cX9_cellsTold 56 = .ok (.aload_n 0, 1) := by decide +kernel
theorem dX9_cellsTold_57 : decode cX9_cellsTold 57 = .ok (.getfield 114, 3) := by decide +kernel
theorem dX9_cellsTold_60 : decode cX9_cellsTold 60 = .ok (.putfield 120, 3) := by decide +kernel
theorem dX9_cellsTold_63 : decode cX9_cellsTold 63 = .ok (.aload_n 0, 1) := by decide +kernel
theorem dX9_cellsTold_64 : decode cX9_cellsTold 64 = .ok (.dup, 1) := by decide +kernel
theorem dX9_cellsTold_65 : decode cX9_cellsTold 65 = .ok (.getfield 114, 3) := by decide +kernel
theorem dX9_cellsTold_68 : decode cX9_cellsTold 68 = .ok (.iconst 1, 1) := by decide +kernel
theorem dX9_cellsTold_69 : decode cX9_cellsTold 69 = .ok (.iadd, 1) := by decide +kernel
theorem dX9_cellsTold_70 : decode cX9_cellsTold 70 = .ok (.putfield 114, 3) := by decide +kernel
theorem dX9_cellsTold_73 : decode cX9_cellsTold 73 = .ok (.aload_n 0, 1) := by decide +kernel
theorem dX9_cellsTold_74 : decode cX9_cellsTold 74 = .ok (.iconst 1, 1) := by decide +kernel
theorem dX9_cellsTold_75 : decode cX9_cellsTold 75 = .ok (.iload_n 1, 1) := by decide +kernel
theorem dX9_cellsTold_76 : decode cX9_cellsTold 76 = .ok (.bipush 6, 2) := by decide +kernel
theorem dX9_cellsTold_78 : decode cX9_cellsTold 78 = .ok (.invokevirtual 127, 3) := by decide +kernel
theorem dX9_cellsTold_81 : decode cX9_cellsTold 81 = .ok (.istore_n 2, 1) := by decide +kernel
theorem dX9_cellsTold_82 : decode cX9_cellsTold 82 = .ok (.aload_n 0, 1) := by decide +kernel
theorem dX9_cellsTold_83 : decode cX9_cellsTold 83 = .ok (.getfield 120, 3) := by decide +kernel
theorem dX9_cellsTold_86 : decode cX9_cellsTold 86 = .ok (.iconst (-1), 1) := by decide +kernel
theorem dX9_cellsTold_87 : decode cX9_cellsTold 87 = .ok (.if_icmp .ne 13, 3) := by decide +kernel
theorem dX9_cellsTold_90 : decode cX9_cellsTold 90 = .ok (.iconst 2, 1) := by decide +kernel
theorem dX9_cellsTold_91 : decode cX9_cellsTold 91 = .ok (.iload_n 2, 1) := by decide +kernel
theorem dX9_cellsTold_92 : decode cX9_cellsTold 92 = .ok (.ishl, 1) := by decide +kernel
theorem dX9_cellsTold_93 : decode cX9_cellsTold 93 = .ok (.iconst 1, 1) := by decide +kernel
theorem dX9_cellsTold_94 : decode cX9_cellsTold 94 = .ok (.iload_n 1, 1) := by decide +kernel
theorem dX9_cellsTold_95 : decode cX9_cellsTold 95 = .ok (.ishl, 1) := by decide +kernel
theorem dX9_cellsTold_96 : decode cX9_cellsTold 96 = .ok (.isub, 1) := by decide +kernel
theorem dX9_cellsTold_97 : decode cX9_cellsTold 97 = .ok (.goto 4, 3) := by decide +kernel
theorem dX9_cellsTold_100 : decode cX9_cellsTold 100 = .ok (.iconst 0, 1) := by decide +kernel
theorem dX9_cellsTold_101 : decode cX9_cellsTold 101 = .ok (.ireturn, 1) := by decide +kernel
theorem dX9_readsPart_0 : decode cX9_readsPart 0 = .ok (.bipush 17, 2) := by decide +kernel
theorem dX9_readsPart_2 : decode cX9_readsPart 2 = .ok (.aload_n 0, 1) := by decide +kernel
theorem dX9_readsPart_3 : decode cX9_readsPart 3 = .ok (.getfield 117, 3) := by decide +kernel
theorem dX9_readsPart_6 : decode cX9_readsPart 6 = .ok (.imul, 1) := by decide +kernel
theorem dX9_readsPart_7 : decode cX9_readsPart 7 = .ok (.istore_n 1, 1) := by decide +kernel
theorem dX9_readsPart_8 : decode cX9_readsPart 8 = .ok (.aload_n 0, 1) := by decide +kernel
theorem dX9_readsPart_9 : decode cX9_readsPart 9 = .ok (.invokevirtual 123, 3) := by decide +kernel
theorem dX9_readsPart_12 : decode cX9_readsPart 12 = .ok (.istore_n 2, 1) := by decide +kernel
theorem dX9_readsPart_13 : decode cX9_readsPart 13 = .ok (.aload_n 0, 1) := by decide +kernel
theorem dX9_readsPart_14 : decode cX9_readsPart 14 = .ok (.getfield 114, 3) := by decide +kernel
theorem dX9_readsPart_17 : decode cX9_readsPart 17 = .ok (.istore_n 3, 1) := by decide +kernel
theorem dX9_readsPart_18 : decode cX9_readsPart 18 = .ok (.aload_n 0, 1) := by decide +kernel
theorem dX9_readsPart_19 : decode cX9_readsPart 19 = .ok (.dup, 1) := by decide +kernel
theorem dX9_readsPart_20 : decode cX9_readsPart 20 = .ok (.getfield 114, 3) := by decide +kernel
theorem dX9_readsPart_23 : decode cX9_readsPart 23 = .ok (.iconst 1, 1) := by decide +kernel
theorem dX9_readsPart_24 : decode cX9_readsPart 24 = .ok (.iadd, 1) := by decide +kernel
theorem dX9_readsPart_25 : decode cX9_readsPart 25 = .ok (.putfield 114, 3) := by decide +kernel
theorem dX9_readsPart_28 : decode cX9_readsPart 28 = .ok (.iload_n 2, 1) := by decide +kernel
theorem dX9_readsPart_29 : decode cX9_readsPart 29 = .ok (.bipush 121, 2) := by decide +kernel
theorem dX9_readsPart_31 : decode cX9_readsPart 31 = .ok (.if_icmp .eq 9, 3) := by decide +kernel
theorem dX9_readsPart_34 : decode cX9_readsPart 34 = .ok (.iload_n 2, 1) := by decide +kernel
theorem dX9_readsPart_35 : decode cX9_readsPart 35 = .ok (.bipush 110, 2) := by decide +kernel
theorem dX9_readsPart_37 : decode cX9_readsPart 37 = .ok (.if_icmp .ne 93, 3) := by decide +kernel
theorem dX9_readsPart_40 : decode cX9_readsPart 40 = .ok (.aload_n 0, 1) := by decide +kernel
theorem dX9_readsPart_41 : decode cX9_readsPart 41 = .ok (.iconst 1, 1) := by decide +kernel
theorem dX9_readsPart_42 : decode cX9_readsPart 42 = .ok (.iconst 0, 1) := by decide +kernel
theorem dX9_readsPart_43 : decode cX9_readsPart 43 = .ok (.bipush 9, 2) := by decide +kernel
theorem dX9_readsPart_45 : decode cX9_readsPart 45 = .ok (.invokevirtual 127, 3) := by decide +kernel
theorem dX9_readsPart_48 : decode cX9_readsPart 48 = .ok (.istore 4, 2) := by decide +kernel
theorem dX9_readsPart_50 : decode cX9_readsPart 50 = .ok (.aload_n 0, 1) := by decide +kernel
theorem dX9_readsPart_51 : decode cX9_readsPart 51 = .ok (.invokevirtual 131, 3) := by decide +kernel
theorem dX9_readsPart_54 : decode cX9_readsPart 54 = .ok (.istore 5, 2) := by decide +kernel
theorem dX9_readsPart_56 : decode cX9_readsPart 56 = .ok (.aload_n 0, 1) := by decide +kernel
theorem dX9_readsPart_57 : decode cX9_readsPart 57 = .ok (.getfield 120, 3) := by decide +kernel
theorem dX9_readsPart_60 : decode cX9_readsPart 60 = .ok (.iconst (-1), 1) := by decide +kernel
theorem dX9_readsPart_61 : decode cX9_readsPart 61 = .ok (.if_icmp .ne 47, 3) := by decide +kernel
theorem dX9_readsPart_64 : decode cX9_readsPart 64 = .ok (.aload_n 0, 1) := by decide +kernel
theorem dX9_readsPart_65 : decode cX9_readsPart 65 = .ok (.getfield 23, 3) := by decide +kernel
theorem dX9_readsPart_68 : decode cX9_readsPart 68 = .ok (.iload_n 1, 1) := by decide +kernel
theorem dX9_readsPart_69 : decode cX9_readsPart 69 = .ok (.iload 4, 2) := by decide +kernel
theorem dX9_readsPart_71 : decode cX9_readsPart 71 = .ok (.iadd, 1) := by decide +kernel
theorem dX9_readsPart_72 : decode cX9_readsPart 72 = .ok (.iload_n 2, 1) := by decide +kernel
theorem dX9_readsPart_73 : decode cX9_readsPart 73 = .ok (.bipush 121, 2) := by decide +kernel
theorem dX9_readsPart_75 : decode cX9_readsPart 75 = .ok (.if_icmp .ne 18, 3) := by decide +kernel
theorem dX9_readsPart_78 : decode cX9_readsPart 78 = .ok (.aload_n 0, 1) := by decide +kernel
theorem dX9_readsPart_79 : decode cX9_readsPart 79 = .ok (.getfield 23, 3) := by decide +kernel
theorem dX9_readsPart_82 : decode cX9_readsPart 82 = .ok (.iload_n 1, 1) := by decide +kernel
theorem dX9_readsPart_83 : decode cX9_readsPart 83 = .ok (.iload 4, 2) := by decide +kernel
theorem dX9_readsPart_85 : decode cX9_readsPart 85 = .ok (.iadd, 1) := by decide +kernel
theorem dX9_readsPart_86 : decode cX9_readsPart 86 = .ok (.iaload, 1) := by decide +kernel
theorem dX9_readsPart_87 : decode cX9_readsPart 87 = .ok (.iload 5, 2) := by decide +kernel
theorem dX9_readsPart_89 : decode cX9_readsPart 89 = .ok (.ior, 1) := by decide +kernel
theorem dX9_readsPart_90 : decode cX9_readsPart 90 = .ok (.goto 17, 3) := by decide +kernel
theorem dX9_readsPart_93 : decode cX9_readsPart 93 = .ok (.aload_n 0, 1) := by decide +kernel
theorem dX9_readsPart_94 : decode cX9_readsPart 94 = .ok (.getfield 23, 3) := by decide +kernel
theorem dX9_readsPart_97 : decode cX9_readsPart 97 = .ok (.iload_n 1, 1) := by decide +kernel
theorem dX9_readsPart_98 : decode cX9_readsPart 98 = .ok (.iload 4, 2) := by decide +kernel
theorem dX9_readsPart_100 : decode cX9_readsPart 100 = .ok (.iadd, 1) := by decide +kernel
theorem dX9_readsPart_101 : decode cX9_readsPart 101 = .ok (.iaload, 1) := by decide +kernel
theorem dX9_readsPart_102 : decode cX9_readsPart 102 = .ok (.iload 5, 2) := by decide +kernel
theorem dX9_readsPart_104 : decode cX9_readsPart 104 = .ok (.iconst (-1), 1) := by decide +kernel
theorem dX9_readsPart_105 : decode cX9_readsPart 105 = .ok (.ixor, 1) := by decide +kernel
theorem dX9_readsPart_106 : decode cX9_readsPart 106 = .ok (.iand, 1) := by decide +kernel
theorem dX9_readsPart_107 : decode cX9_readsPart 107 = .ok (.iastore, 1) := by decide +kernel
theorem dX9_readsPart_108 : decode cX9_readsPart 108 = .ok (.aload_n 0, 1) := by decide +kernel
theorem dX9_readsPart_109 : decode cX9_readsPart 109 = .ok (.getfield 120, 3) := by decide +kernel
theorem dX9_readsPart_112 : decode cX9_readsPart 112 = .ok (.iconst (-1), 1) := by decide +kernel
theorem dX9_readsPart_113 : decode cX9_readsPart 113 = .ok (.if_icmp .ne 15, 3) := by decide +kernel
theorem dX9_readsPart_116 : decode cX9_readsPart 116 = .ok (.sipush 128, 3) := by decide +kernel
theorem dX9_readsPart_119 : decode cX9_readsPart 119 = .ok (.iload 4, 2) := by decide +kernel
theorem dX9_readsPart_121 : decode cX9_readsPart 121 = .ok (.imul, 1) := by decide +kernel
theorem dX9_readsPart_122 : decode cX9_readsPart 122 = .ok (.iload 5, 2) := by decide +kernel
theorem dX9_readsPart_124 : decode cX9_readsPart 124 = .ok (.iadd, 1) := by decide +kernel
theorem dX9_readsPart_125 : decode cX9_readsPart 125 = .ok (.goto 4, 3) := by decide +kernel
theorem dX9_readsPart_128 : decode cX9_readsPart 128 = .ok (.iconst (-1), 1) := by decide +kernel
theorem dX9_readsPart_129 : decode cX9_readsPart 129 = .ok (.ireturn, 1) := by decide +kernel
theorem dX9_readsPart_130 : decode cX9_readsPart 130 = .ok (.iload_n 2, 1) := by decide +kernel
theorem dX9_readsPart_131 : decode cX9_readsPart 131 = .ok (.bipush 103, 2) := by decide +kernel
theorem dX9_readsPart_133 : decode cX9_readsPart 133 = .ok (.if_icmp .ne 132, 3) := by decide +kernel
theorem dX9_readsPart_136 : decode cX9_readsPart 136 = .ok (.aload_n 0, 1) := by decide +kernel
theorem dX9_readsPart_137 : decode cX9_readsPart 137 = .ok (.getfield 114, 3) := by decide +kernel
theorem dX9_readsPart_140 : decode cX9_readsPart 140 = .ok (.istore 4, 2) := by decide +kernel
theorem dX9_readsPart_142 : decode cX9_readsPart 142 = .ok (.aload_n 0, 1) := by decide +kernel
theorem dX9_readsPart_143 : decode cX9_readsPart 143 = .ok (.iconst 1, 1) := by decide +kernel
theorem dX9_readsPart_144 : decode cX9_readsPart 144 = .ok (.iconst 4, 1) := by decide +kernel
theorem dX9_readsPart_145 : decode cX9_readsPart 145 = .ok (.bipush 9, 2) := by decide +kernel
theorem dX9_readsPart_147 : decode cX9_readsPart 147 = .ok (.invokevirtual 127, 3) := by decide +kernel
theorem dX9_readsPart_150 : decode cX9_readsPart 150 = .ok (.istore 5, 2) := by decide +kernel
theorem dX9_readsPart_152 : decode cX9_readsPart 152 = .ok (.aload_n 0, 1) := by decide +kernel
theorem dX9_readsPart_153 : decode cX9_readsPart 153 = .ok (.getfield 120, 3) := by decide +kernel
theorem dX9_readsPart_156 : decode cX9_readsPart 156 = .ok (.iconst (-1), 1) := by decide +kernel
theorem dX9_readsPart_157 : decode cX9_readsPart 157 = .ok (.if_icmp .ne 29, 3) := by decide +kernel
theorem dX9_readsPart_160 : decode cX9_readsPart 160 = .ok (.iload 5, 2) := by decide +kernel
theorem dX9_readsPart_162 : decode cX9_readsPart 162 = .ok (.iconst 4, 1) := by decide +kernel
theorem dX9_readsPart_163 : decode cX9_readsPart 163 = .ok (.if_icmp .eq 23, 3) := by decide +kernel
theorem dX9_readsPart_166 : decode cX9_readsPart 166 = .ok (.iload 5, 2) := by decide +kernel
theorem dX9_readsPart_168 : decode cX9_readsPart 168 = .ok (.bipush 8, 2) := by decide +kernel
theorem dX9_readsPart_170 : decode cX9_readsPart 170 = .ok (.if_icmp .eq 16, 3) := by decide +kernel
theorem dX9_readsPart_173 : decode cX9_readsPart 173 = .ok (.iload 5, 2) := by decide +kernel
theorem dX9_readsPart_175 : decode cX9_readsPart 175 = .ok (.bipush 9, 2) := by decide +kernel
theorem dX9_readsPart_177 : decode cX9_readsPart 177 = .ok (.if_icmp .eq 9, 3) := by decide +kernel
theorem dX9_readsPart_180 : decode cX9_readsPart 180 = .ok (.aload_n 0, 1) := by decide +kernel
theorem dX9_readsPart_181 : decode cX9_readsPart 181 = .ok (.iload 4, 2) := by decide +kernel
theorem dX9_readsPart_183 : decode cX9_readsPart 183 = .ok (.putfield 120, 3) := by decide +kernel
theorem dX9_readsPart_186 : decode cX9_readsPart 186 = .ok (.aload_n 0, 1) := by decide +kernel
theorem dX9_readsPart_187 : decode cX9_readsPart 187 = .ok (.getfield 120, 3) := by decide +kernel
theorem dX9_readsPart_190 : decode cX9_readsPart 190 = .ok (.iconst (-1), 1) := by decide +kernel
theorem dX9_readsPart_191 : decode cX9_readsPart 191 = .ok (.if_icmp .ne 20, 3) := by decide +kernel
theorem dX9_readsPart_194 : decode cX9_readsPart 194 = .ok (.aload_n 0, 1) := by decide +kernel
theorem dX9_readsPart_195 : decode cX9_readsPart 195 = .ok (.invokevirtual 123, 3) := by decide +kernel
theorem dX9_readsPart_198 : decode cX9_readsPart 198 = .ok (.bipush 61, 2) := by decide +kernel
theorem dX9_readsPart_200 : decode cX9_readsPart 200 = .ok (.if_icmp .eq 11, 3) := by decide +kernel
theorem dX9_readsPart_203 : decode cX9_readsPart 203 = .ok (.aload_n 0, 1) := by decide +kernel
theorem dX9_readsPart_204 : decode cX9_readsPart 204 = .ok (.aload_n 0, 1) := by decide +kernel
theorem dX9_readsPart_205 : decode cX9_readsPart 205 = .ok (.getfield 114, 3) := by decide +kernel
theorem dX9_readsPart_208 : decode cX9_readsPart 208 = .ok (.putfield 120, 3) := by decide +kernel
theorem dX9_readsPart_211 : decode cX9_readsPart 211 = .ok (.aload_n 0, 1) := by decide +kernel
theorem dX9_readsPart_212 : decode cX9_readsPart 212 = .ok (.dup, 1) := by decide +kernel
theorem dX9_readsPart_213 : decode cX9_readsPart 213 = .ok (.getfield 114, 3) := by decide +kernel
theorem dX9_readsPart_216 : decode cX9_readsPart 216 = .ok (.iconst 1, 1) := by decide +kernel
theorem dX9_readsPart_217 : decode cX9_readsPart 217 = .ok (.iadd, 1) := by decide +kernel
theorem dX9_readsPart_218 : decode cX9_readsPart 218 = .ok (.putfield 114, 3) := by decide +kernel
theorem dX9_readsPart_221 : decode cX9_readsPart 221 = .ok (.aload_n 0, 1) := by decide +kernel
theorem dX9_readsPart_222 : decode cX9_readsPart 222 = .ok (.iconst 1, 1) := by decide +kernel
theorem dX9_readsPart_223 : decode cX9_readsPart 223 = .ok (.iconst 0, 1) := by decide +kernel
theorem dX9_readsPart_224 : decode cX9_readsPart 224 = .ok (.bipush 9, 2) := by decide +kernel
theorem dX9_readsPart_226 : decode cX9_readsPart 226 = .ok (.invokevirtual 127, 3) := by decide +kernel
theorem dX9_readsPart_229 : decode cX9_readsPart 229 = .ok (.istore 6, 2) := by decide +kernel
theorem dX9_readsPart_231 : decode cX9_readsPart 231 = .ok (.aload_n 0, 1) := by decide +kernel
theorem dX9_readsPart_232 : decode cX9_readsPart 232 = .ok (.getfield 120, 3) := by decide +kernel
theorem dX9_readsPart_235 : decode cX9_readsPart 235 = .ok (.iconst (-1), 1) := by decide +kernel
theorem dX9_readsPart_236 : decode cX9_readsPart 236 = .ok (.if_icmp .ne 27, 3) := by decide +kernel
theorem dX9_readsPart_239 : decode cX9_readsPart 239 = .ok (.aload_n 0, 1) := by decide +kernel
theorem dX9_readsPart_240 : decode cX9_readsPart 240 = .ok (.getfield 23, 3) := by decide +kernel
theorem dX9_readsPart_243 : decode cX9_readsPart 243 = .ok (.iload_n 1, 1) := by decide +kernel
theorem dX9_readsPart_244 : decode cX9_readsPart 244 = .ok (.iload 5, 2) := by decide +kernel
theorem dX9_readsPart_246 : decode cX9_readsPart 246 = .ok (.iconst 4, 1) := by decide +kernel
theorem dX9_readsPart_247 : decode cX9_readsPart 247 = .ok (.if_icmp .ne 8, 3) := by decide +kernel
theorem dX9_readsPart_250 : decode cX9_readsPart 250 = .ok (.bipush 10, 2) := by decide +kernel
theorem dX9_readsPart_252 : decode cX9_readsPart 252 = .ok (.goto 7, 3) := by decide +kernel
theorem dX9_readsPart_255 : decode cX9_readsPart 255 = .ok (.iload 5, 2) := by decide +kernel
theorem dX9_readsPart_257 : decode cX9_readsPart 257 = .ok (.iconst 3, 1) := by decide +kernel
theorem dX9_readsPart_258 : decode cX9_readsPart 258 = .ok (.iadd, 1) := by decide +kernel
theorem dX9_readsPart_259 : decode cX9_readsPart 259 = .ok (.iadd, 1) := by decide +kernel
theorem dX9_readsPart_260 : decode cX9_readsPart 260 = .ok (.iload 6, 2) := by decide +kernel
theorem dX9_readsPart_262 : decode cX9_readsPart 262 = .ok (.iastore, 1) := by decide +kernel
theorem dX9_readsPart_263 : decode cX9_readsPart 263 = .ok (.iconst (-1), 1) := by decide +kernel
theorem dX9_readsPart_264 : decode cX9_readsPart 264 = .ok (.ireturn, 1) := by decide +kernel
theorem dX9_readsPart_265 : decode cX9_readsPart 265 = .ok (.iload_n 2, 1) := by decide +kernel
theorem dX9_readsPart_266 : decode cX9_readsPart 266 = .ok (.bipush 97, 2) := by decide +kernel
theorem dX9_readsPart_268 : decode cX9_readsPart 268 = .ok (.if_icmp .ne 8, 3) := by decide +kernel
theorem dX9_readsPart_271 : decode cX9_readsPart 271 = .ok (.bipush 13, 2) := by decide +kernel
theorem dX9_readsPart_273 : decode cX9_readsPart 273 = .ok (.goto 37, 3) := by decide +kernel
theorem dX9_readsPart_276 : decode cX9_readsPart 276 = .ok (.iload_n 2, 1) := by decide +kernel
theorem dX9_readsPart_277 : decode cX9_readsPart 277 = .ok (.bipush 107, 2) := by decide +kernel
theorem dX9_readsPart_279 : decode cX9_readsPart 279 = .ok (.if_icmp .ne 8, 3) := by decide +kernel
theorem dX9_readsPart_282 : decode cX9_readsPart 282 = .ok (.bipush 14, 2) := by decide +kernel
theorem dX9_readsPart_284 : decode cX9_readsPart 284 = .ok (.goto 26, 3) := by decide +kernel
theorem dX9_readsPart_287 : decode cX9_readsPart 287 = .ok (.iload_n 2, 1) := by decide +kernel
theorem dX9_readsPart_288 : decode cX9_readsPart 288 = .ok (.bipush 101, 2) := by decide +kernel
theorem dX9_readsPart_290 : decode cX9_readsPart 290 = .ok (.if_icmp .ne 8, 3) := by decide +kernel
theorem dX9_readsPart_293 : decode cX9_readsPart 293 = .ok (.bipush 15, 2) := by decide +kernel
theorem dX9_readsPart_295 : decode cX9_readsPart 295 = .ok (.goto 15, 3) := by decide +kernel
theorem dX9_readsPart_298 : decode cX9_readsPart 298 = .ok (.iload_n 2, 1) := by decide +kernel
theorem dX9_readsPart_299 : decode cX9_readsPart 299 = .ok (.bipush 116, 2) := by decide +kernel
theorem dX9_readsPart_301 : decode cX9_readsPart 301 = .ok (.if_icmp .ne 8, 3) := by decide +kernel
theorem dX9_readsPart_304 : decode cX9_readsPart 304 = .ok (.bipush 16, 2) := by decide +kernel
theorem dX9_readsPart_306 : decode cX9_readsPart 306 = .ok (.goto 4, 3) := by decide +kernel
theorem dX9_readsPart_309 : decode cX9_readsPart 309 = .ok (.iconst (-1), 1) := by decide +kernel
theorem dX9_readsPart_310 : decode cX9_readsPart 310 = .ok (.istore 4, 2) := by decide +kernel
theorem dX9_readsPart_312 : decode cX9_readsPart 312 = .ok (.iload 4, 2) := by decide +kernel
theorem dX9_readsPart_314 : decode cX9_readsPart 314 = .ok (.iconst (-1), 1) := by decide +kernel
theorem dX9_readsPart_315 : decode cX9_readsPart 315 = .ok (.if_icmp .ne 10, 3) := by decide +kernel
theorem dX9_readsPart_318 : decode cX9_readsPart 318 = .ok (.aload_n 0, 1) := by decide +kernel
theorem dX9_readsPart_319 : decode cX9_readsPart 319 = .ok (.iload_n 3, 1) := by decide +kernel
theorem dX9_readsPart_320 : decode cX9_readsPart 320 = .ok (.putfield 120, 3) := by decide +kernel
theorem dX9_readsPart_323 : decode cX9_readsPart 323 = .ok (.iconst (-1), 1) := by decide +kernel
theorem dX9_readsPart_324 : decode cX9_readsPart 324 = .ok (.ireturn, 1) := by decide +kernel
theorem dX9_readsPart_325 : decode cX9_readsPart 325 = .ok (.iload 4, 2) := by decide +kernel
theorem dX9_readsPart_327 : decode cX9_readsPart 327 = .ok (.bipush 15, 2) := by decide +kernel
theorem dX9_readsPart_329 : decode cX9_readsPart 329 = .ok (.if_icmp .ge 13, 3) := by decide +kernel
theorem dX9_readsPart_332 : decode cX9_readsPart 332 = .ok (.aload_n 0, 1) := by decide +kernel
theorem dX9_readsPart_333 : decode cX9_readsPart 333 = .ok (.iconst 1, 1) := by decide +kernel
theorem dX9_readsPart_334 : decode cX9_readsPart 334 = .ok (.iconst 0, 1) := by decide +kernel
theorem dX9_readsPart_335 : decode cX9_readsPart 335 = .ok (.iconst 2, 1) := by decide +kernel
theorem dX9_readsPart_336 : decode cX9_readsPart 336 = .ok (.invokevirtual 127, 3) := by decide +kernel
theorem dX9_readsPart_339 : decode cX9_readsPart 339 = .ok (.goto 22, 3) := by decide +kernel
theorem dX9_readsPart_342 : decode cX9_readsPart 342 = .ok (.aload_n 0, 1) := by decide +kernel
theorem dX9_readsPart_343 : decode cX9_readsPart 343 = .ok (.iconst 2, 1) := by decide +kernel
theorem dX9_readsPart_344 : decode cX9_readsPart 344 = .ok (.iload 4, 2) := by decide +kernel
theorem dX9_readsPart_346 : decode cX9_readsPart 346 = .ok (.bipush 16, 2) := by decide +kernel
theorem dX9_readsPart_348 : decode cX9_readsPart 348 = .ok (.if_icmp .ne 7, 3) := by decide +kernel
theorem dX9_readsPart_351 : decode cX9_readsPart 351 = .ok (.iconst 1, 1) := by decide +kernel
theorem dX9_readsPart_352 : decode cX9_readsPart 352 = .ok (.goto 4, 3) := by decide +kernel
theorem dX9_readsPart_355 : decode cX9_readsPart 355 = .ok (.iconst 0, 1) := by decide +kernel
theorem dX9_readsPart_356 : decode cX9_readsPart 356 = .ok (.bipush 99, 2) := by decide +kernel
theorem dX9_readsPart_358 : decode cX9_readsPart 358 = .ok (.invokevirtual 127, 3) := by decide +kernel
theorem dX9_readsPart_361 : decode cX9_readsPart 361 = .ok (.istore 5, 2) := by decide +kernel
theorem dX9_readsPart_363 : decode cX9_readsPart 363 = .ok (.aload_n 0, 1) := by decide +kernel
theorem dX9_readsPart_364 : decode cX9_readsPart 364 = .ok (.getfield 23, 3) := by decide +kernel
theorem dX9_readsPart_367 : decode cX9_readsPart 367 = .ok (.iload_n 1, 1) := by decide +kernel
theorem dX9_readsPart_368 : decode cX9_readsPart 368 = .ok (.iload 4, 2) := by decide +kernel
theorem dX9_readsPart_370 : decode cX9_readsPart 370 = .ok (.iadd, 1) := by decide +kernel
theorem dX9_readsPart_371 : decode cX9_readsPart 371 = .ok (.iload 5, 2) := by decide +kernel
theorem dX9_readsPart_373 : decode cX9_readsPart 373 = .ok (.iastore, 1) := by decide +kernel
theorem dX9_readsPart_374 : decode cX9_readsPart 374 = .ok (.iconst (-1), 1) := by decide +kernel
theorem dX9_readsPart_375 : decode cX9_readsPart 375 = .ok (.ireturn, 1) := by decide +kernel
theorem dX9_plains_0 : decode cX9_plains 0 = .ok (.iconst 0, 1) := by decide +kernel
theorem dX9_plains_1 : decode cX9_plains 1 = .ok (.istore_n 2, 1) := by decide +kernel
theorem dX9_plains_2 : decode cX9_plains 2 = .ok (.iload_n 2, 1) := by decide +kernel
theorem dX9_plains_3 : decode cX9_plains 3 = .ok (.bipush 17, 2) := by decide +kernel
theorem dX9_plains_5 : decode cX9_plains 5 = .ok (.if_icmp .ge 24, 3) := by decide +kernel
theorem dX9_plains_8 : decode cX9_plains 8 = .ok (.aload_n 0, 1) := by decide +kernel
theorem dX9_plains_9 : decode cX9_plains 9 = .ok (.getfield 23, 3) := by decide +kernel
theorem dX9_plains_12 : decode cX9_plains 12 = .ok (.bipush 17, 2) := by decide +kernel
theorem dX9_plains_14 : decode cX9_plains 14 = .ok (.iload_n 1, 1) := by decide +kernel
theorem dX9_plains_15 : decode cX9_plains 15 = .ok (.imul, 1) := by decide +kernel
theorem dX9_plains_16 : decode cX9_plains 16 = .ok (.iload_n 2, 1) := by decide +kernel
theorem dX9_plains_17 : decode cX9_plains 17 = .ok (.iadd, 1) := by decide +kernel
theorem dX9_plains_18 : decode cX9_plains 18 = .ok (.iload_n 2, 1) := by decide +kernel
theorem dX9_plains_19 : decode cX9_plains 19 = .ok (.invokestatic 102, 3) := by decide +kernel
theorem dX9_plains_22 : decode cX9_plains 22 = .ok (.iastore, 1) := by decide +kernel
theorem dX9_plains_23 : decode cX9_plains 23 = .ok (.iinc 2 1, 3) := by decide +kernel
theorem dX9_plains_26 : decode cX9_plains 26 = .ok (.goto (-24), 3) := by decide +kernel
theorem dX9_plains_29 : decode cX9_plains 29 = .ok (.return_, 1) := by decide +kernel
theorem dX9_reads_0 : decode cX9_reads 0 = .ok (.aload_n 0, 1) := by decide +kernel
theorem dX9_reads_1 : decode cX9_reads 1 = .ok (.getfield 16, 3) := by decide +kernel
theorem dX9_reads_4 : decode cX9_reads 4 = .ok (.iload_n 1, 1) := by decide +kernel
theorem dX9_reads_5 : decode cX9_reads 5 = .ok (.baload, 1) := by decide +kernel
theorem dX9_reads_6 : decode cX9_reads 6 = .ok (.ifCond .eq 4, 3) := by decide +kernel
theorem dX9_reads_9 : decode cX9_reads 9 = .ok (.return_, 1) := by decide +kernel
theorem dX9_reads_10 : decode cX9_reads 10 = .ok (.aload_n 0, 1) := by decide +kernel
theorem dX9_reads_11 : decode cX9_reads 11 = .ok (.getfield 16, 3) := by decide +kernel
theorem dX9_reads_14 : decode cX9_reads 14 = .ok (.iload_n 1, 1) := by decide +kernel
theorem dX9_reads_15 : decode cX9_reads 15 = .ok (.iconst 1, 1) := by decide +kernel
theorem dX9_reads_16 : decode cX9_reads 16 = .ok (.bastore, 1) := by decide +kernel
theorem dX9_reads_17 : decode cX9_reads 17 = .ok (.aload_n 0, 1) := by decide +kernel
theorem dX9_reads_18 : decode cX9_reads 18 = .ok (.iload_n 1, 1) := by decide +kernel
theorem dX9_reads_19 : decode cX9_reads 19 = .ok (.putfield 117, 3) := by decide +kernel
theorem dX9_reads_22 : decode cX9_reads 22 = .ok (.aload_n 0, 1) := by decide +kernel
theorem dX9_reads_23 : decode cX9_reads 23 = .ok (.iconst 0, 1) := by decide +kernel
theorem dX9_reads_24 : decode cX9_reads 24 = .ok (.putfield 114, 3) := by decide +kernel
theorem dX9_reads_27 : decode cX9_reads 27 = .ok (.aload_n 0, 1) := by decide +kernel
theorem dX9_reads_28 : decode cX9_reads 28 = .ok (.iconst (-1), 1) := by decide +kernel
theorem dX9_reads_29 : decode cX9_reads 29 = .ok (.putfield 120, 3) := by decide +kernel
theorem dX9_reads_32 : decode cX9_reads 32 = .ok (.aload_n 0, 1) := by decide +kernel
theorem dX9_reads_33 : decode cX9_reads 33 = .ok (.iload_n 1, 1) := by decide +kernel
theorem dX9_reads_34 : decode cX9_reads 34 = .ok (.invokevirtual 134, 3) := by decide +kernel
theorem dX9_reads_37 : decode cX9_reads 37 = .ok (.iconst 0, 1) := by decide +kernel
theorem dX9_reads_38 : decode cX9_reads 38 = .ok (.istore_n 2, 1) := by decide +kernel
theorem dX9_reads_39 : decode cX9_reads 39 = .ok (.iload_n 2, 1) := by decide +kernel
theorem dX9_reads_40 : decode cX9_reads 40 = .ok (.bipush 28, 2) := by decide +kernel
theorem dX9_reads_42 : decode cX9_reads 42 = .ok (.if_icmp .ge 21, 3) := by decide +kernel
theorem dX9_reads_45 : decode cX9_reads 45 = .ok (.aload_n 0, 1) := by decide +kernel
theorem dX9_reads_46 : decode cX9_reads 46 = .ok (.getfield 26, 3) := by decide +kernel
theorem dX9_reads_49 : decode cX9_reads 49 = .ok (.bipush 28, 2) := by decide +kernel
theorem dX9_reads_51 : decode cX9_reads 51 = .ok (.iload_n 1, 1) := by decide +kernel
theorem dX9_reads_52 : decode cX9_reads 52 = .ok (.imul, 1) := by decide +kernel
theorem dX9_reads_53 : decode cX9_reads 53 = .ok (.iload_n 2, 1) := by decide +kernel
theorem dX9_reads_54 : decode cX9_reads 54 = .ok (.iadd, 1) := by decide +kernel
theorem dX9_reads_55 : decode cX9_reads 55 = .ok (.iconst (-1), 1) := by decide +kernel
theorem dX9_reads_56 : decode cX9_reads 56 = .ok (.iastore, 1) := by decide +kernel
theorem dX9_reads_57 : decode cX9_reads 57 = .ok (.iinc 2 1, 3) := by decide +kernel
theorem dX9_reads_60 : decode cX9_reads 60 = .ok (.goto (-21), 3) := by decide +kernel
theorem dX9_reads_63 : decode cX9_reads 63 = .ok (.iconst 0, 1) := by decide +kernel
theorem dX9_reads_64 : decode cX9_reads 64 = .ok (.istore_n 2, 1) := by decide +kernel
theorem dX9_reads_65 : decode cX9_reads 65 = .ok (.aload_n 0, 1) := by decide +kernel
theorem dX9_reads_66 : decode cX9_reads 66 = .ok (.getfield 7, 3) := by decide +kernel
theorem dX9_reads_69 : decode cX9_reads 69 = .ok (.iload_n 1, 1) := by decide +kernel
theorem dX9_reads_70 : decode cX9_reads 70 = .ok (.iaload, 1) := by decide +kernel
theorem dX9_reads_71 : decode cX9_reads 71 = .ok (.ifCond .le 7, 3) := by decide +kernel
theorem dX9_reads_74 : decode cX9_reads 74 = .ok (.iconst 1, 1) := by decide +kernel
theorem dX9_reads_75 : decode cX9_reads 75 = .ok (.goto 4, 3) := by decide +kernel
theorem dX9_reads_78 : decode cX9_reads 78 = .ok (.iconst 0, 1) := by decide +kernel
theorem dX9_reads_79 : decode cX9_reads 79 = .ok (.istore_n 3, 1) := by decide +kernel
theorem dX9_reads_80 : decode cX9_reads 80 = .ok (.iload_n 3, 1) := by decide +kernel
theorem dX9_reads_81 : decode cX9_reads 81 = .ok (.ifCond .eq 99, 3) := by decide +kernel
theorem dX9_reads_84 : decode cX9_reads 84 = .ok (.aload_n 0, 1) := by decide +kernel
theorem dX9_reads_85 : decode cX9_reads 85 = .ok (.invokevirtual 138, 3) := by decide +kernel
theorem dX9_reads_88 : decode cX9_reads 88 = .ok (.istore 4, 2) := by decide +kernel
theorem dX9_reads_90 : decode cX9_reads 90 = .ok (.aload_n 0, 1) := by decide +kernel
theorem dX9_reads_91 : decode cX9_reads 91 = .ok (.getfield 26, 3) := by decide +kernel
theorem dX9_reads_94 : decode cX9_reads 94 = .ok (.bipush 28, 2) := by decide +kernel
theorem dX9_reads_96 : decode cX9_reads 96 = .ok (.iload_n 1, 1) := by decide +kernel
theorem dX9_reads_97 : decode cX9_reads 97 = .ok (.imul, 1) := by decide +kernel
theorem dX9_reads_98 : decode cX9_reads 98 = .ok (.iload_n 2, 1) := by decide +kernel
theorem dX9_reads_99 : decode cX9_reads 99 = .ok (.bipush 27, 2) := by decide +kernel
theorem dX9_reads_101 : decode cX9_reads 101 = .ok (.if_icmp .ge 7, 3) := by decide +kernel
theorem dX9_reads_104 : decode cX9_reads 104 = .ok (.iload_n 2, 1) := by decide +kernel
theorem dX9_reads_105 : decode cX9_reads 105 = .ok (.goto 5, 3) := by decide +kernel
theorem dX9_reads_108 : decode cX9_reads 108 = .ok (.bipush 27, 2) := by decide +kernel
theorem dX9_reads_110 : decode cX9_reads 110 = .ok (.iadd, 1) := by decide +kernel
theorem dX9_reads_111 : decode cX9_reads 111 = .ok (.iload 4, 2) := by decide +kernel
theorem dX9_reads_113 : decode cX9_reads 113 = .ok (.iastore, 1) := by decide +kernel
theorem dX9_reads_114 : decode cX9_reads 114 = .ok (.iinc 2 1, 3) := by decide +kernel
theorem dX9_reads_117 : decode cX9_reads 117 = .ok (.aload_n 0, 1) := by decide +kernel
theorem dX9_reads_118 : decode cX9_reads 118 = .ok (.getfield 120, 3) := by decide +kernel
theorem dX9_reads_121 : decode cX9_reads 121 = .ok (.iconst (-1), 1) := by decide +kernel
theorem dX9_reads_122 : decode cX9_reads 122 = .ok (.if_icmp .ne 20, 3) := by decide +kernel
theorem dX9_reads_125 : decode cX9_reads 125 = .ok (.aload_n 0, 1) := by decide +kernel
theorem dX9_reads_126 : decode cX9_reads 126 = .ok (.getfield 114, 3) := by decide +kernel
theorem dX9_reads_129 : decode cX9_reads 129 = .ok (.aload_n 0, 1) := by decide +kernel
theorem dX9_reads_130 : decode cX9_reads 130 = .ok (.getfield 7, 3) := by decide +kernel
theorem dX9_reads_133 : decode cX9_reads 133 = .ok (.iload_n 1, 1) := by decide +kernel
theorem dX9_reads_134 : decode cX9_reads 134 = .ok (.iaload, 1) := by decide +kernel
theorem dX9_reads_135 : decode cX9_reads 135 = .ok (.if_icmp .ge 7, 3) := by decide +kernel
theorem dX9_reads_138 : decode cX9_reads 138 = .ok (.iconst 1, 1) := by decide +kernel
theorem dX9_reads_139 : decode cX9_reads 139 = .ok (.goto 4, 3) := by decide +kernel
theorem dX9_reads_142 : decode cX9_reads 142 = .ok (.iconst 0, 1) := by decide +kernel
theorem dX9_reads_143 : decode cX9_reads 143 = .ok (.istore_n 3, 1) := by decide +kernel
theorem dX9_reads_144 : decode cX9_reads 144 = .ok (.iload_n 3, 1) := by decide +kernel
theorem dX9_reads_145 : decode cX9_reads 145 = .ok (.ifCond .eq 22, 3) := by decide +kernel
theorem dX9_reads_148 : decode cX9_reads 148 = .ok (.aload_n 0, 1) := by decide +kernel
theorem dX9_reads_149 : decode cX9_reads 149 = .ok (.invokevirtual 123, 3) := by decide +kernel
theorem dX9_reads_152 : decode cX9_reads 152 = .ok (.bipush 59, 2) := by decide +kernel
theorem dX9_reads_154 : decode cX9_reads 154 = .ok (.if_icmp .eq 13, 3) := by decide +kernel
theorem dX9_reads_157 : decode cX9_reads 157 = .ok (.aload_n 0, 1) := by decide +kernel
theorem dX9_reads_158 : decode cX9_reads 158 = .ok (.aload_n 0, 1) := by decide +kernel
theorem dX9_reads_159 : decode cX9_reads 159 = .ok (.getfield 114, 3) := by decide +kernel
theorem dX9_reads_162 : decode cX9_reads 162 = .ok (.putfield 120, 3) := by decide +kernel
theorem dX9_reads_165 : decode cX9_reads 165 = .ok (.iconst 0, 1) := by decide +kernel
theorem dX9_reads_166 : decode cX9_reads 166 = .ok (.istore_n 3, 1) := by decide +kernel
theorem dX9_reads_167 : decode cX9_reads 167 = .ok (.aload_n 0, 1) := by decide +kernel
theorem dX9_reads_168 : decode cX9_reads 168 = .ok (.dup, 1) := by decide +kernel
theorem dX9_reads_169 : decode cX9_reads 169 = .ok (.getfield 114, 3) := by decide +kernel
theorem dX9_reads_172 : decode cX9_reads 172 = .ok (.iconst 1, 1) := by decide +kernel
theorem dX9_reads_173 : decode cX9_reads 173 = .ok (.iadd, 1) := by decide +kernel
theorem dX9_reads_174 : decode cX9_reads 174 = .ok (.putfield 114, 3) := by decide +kernel
theorem dX9_reads_177 : decode cX9_reads 177 = .ok (.goto (-97), 3) := by decide +kernel
theorem dX9_reads_180 : decode cX9_reads 180 = .ok (.aload_n 0, 1) := by decide +kernel
theorem dX9_reads_181 : decode cX9_reads 181 = .ok (.getfield 20, 3) := by decide +kernel
theorem dX9_reads_184 : decode cX9_reads 184 = .ok (.iload_n 1, 1) := by decide +kernel
theorem dX9_reads_185 : decode cX9_reads 185 = .ok (.aload_n 0, 1) := by decide +kernel
theorem dX9_reads_186 : decode cX9_reads 186 = .ok (.getfield 120, 3) := by decide +kernel
theorem dX9_reads_189 : decode cX9_reads 189 = .ok (.iastore, 1) := by decide +kernel
theorem dX9_reads_190 : decode cX9_reads 190 = .ok (.aload_n 0, 1) := by decide +kernel
theorem dX9_reads_191 : decode cX9_reads 191 = .ok (.getfield 120, 3) := by decide +kernel
theorem dX9_reads_194 : decode cX9_reads 194 = .ok (.iconst (-1), 1) := by decide +kernel
theorem dX9_reads_195 : decode cX9_reads 195 = .ok (.if_icmp .eq 37, 3) := by decide +kernel
theorem dX9_reads_198 : decode cX9_reads 198 = .ok (.aload_n 0, 1) := by decide +kernel
theorem dX9_reads_199 : decode cX9_reads 199 = .ok (.iload_n 1, 1) := by decide +kernel
theorem dX9_reads_200 : decode cX9_reads 200 = .ok (.invokevirtual 134, 3) := by decide +kernel
theorem dX9_reads_203 : decode cX9_reads 203 = .ok (.iconst 0, 1) := by decide +kernel
theorem dX9_reads_204 : decode cX9_reads 204 = .ok (.istore 4, 2) := by decide +kernel
theorem dX9_reads_206 : decode cX9_reads 206 = .ok (.iload 4, 2) := by decide +kernel
theorem dX9_reads_208 : decode cX9_reads 208 = .ok (.bipush 28, 2) := by decide +kernel
theorem dX9_reads_210 : decode cX9_reads 210 = .ok (.if_icmp .ge 22, 3) := by decide +kernel
theorem dX9_reads_213 : decode cX9_reads 213 = .ok (.aload_n 0, 1) := by decide +kernel
theorem dX9_reads_214 : decode cX9_reads 214 = .ok (.getfield 26, 3) := by decide +kernel
theorem dX9_reads_217 : decode cX9_reads 217 = .ok (.bipush 28, 2) := by decide +kernel
theorem dX9_reads_219 : decode cX9_reads 219 = .ok (.iload_n 1, 1) := by decide +kernel
theorem dX9_reads_220 : decode cX9_reads 220 = .ok (.imul, 1) := by decide +kernel
theorem dX9_reads_221 : decode cX9_reads 221 = .ok (.iload 4, 2) := by decide +kernel
theorem dX9_reads_223 : decode cX9_reads 223 = .ok (.iadd, 1) := by decide +kernel
theorem dX9_reads_224 : decode cX9_reads 224 = .ok (.iconst (-1), 1) := by decide +kernel
theorem dX9_reads_225 : decode cX9_reads 225 = .ok (.iastore, 1) := by decide +kernel
theorem dX9_reads_226 : decode cX9_reads 226 = .ok (.iinc 4 1, 3) := by decide +kernel
theorem dX9_reads_229 : decode cX9_reads 229 = .ok (.goto (-23), 3) := by decide +kernel
theorem dX9_reads_232 : decode cX9_reads 232 = .ok (.return_, 1) := by decide +kernel
theorem dX9_faultOf_0 : decode cX9_faultOf 0 = .ok (.aload_n 0, 1) := by decide +kernel
theorem dX9_faultOf_1 : decode cX9_faultOf 1 = .ok (.iload_n 1, 1) := by decide +kernel
theorem dX9_faultOf_2 : decode cX9_faultOf 2 = .ok (.invokevirtual 141, 3) := by decide +kernel
theorem dX9_faultOf_5 : decode cX9_faultOf 5 = .ok (.aload_n 0, 1) := by decide +kernel
theorem dX9_faultOf_6 : decode cX9_faultOf 6 = .ok (.getfield 20, 3) := by decide +kernel
theorem dX9_faultOf_9 : decode cX9_faultOf 9 = .ok (.iload_n 1, 1) := by decide +kernel
theorem dX9_faultOf_10 : decode cX9_faultOf 10 = .ok (.iaload, 1) := by decide +kernel
theorem dX9_faultOf_11 : decode cX9_faultOf 11 = .ok (.ireturn, 1) := by decide +kernel
theorem dX9_fault_0 : decode cX9_fault 0 = .ok (.iload_n 1, 1) := by decide +kernel
theorem dX9_fault_1 : decode cX9_fault 1 = .ok (.invokestatic 110, 3) := by decide +kernel
theorem dX9_fault_4 : decode cX9_fault 4 = .ok (.ifCond .eq 11, 3) := by decide +kernel
theorem dX9_fault_7 : decode cX9_fault 7 = .ok (.aload_n 0, 1) := by decide +kernel
theorem dX9_fault_8 : decode cX9_fault 8 = .ok (.iload_n 1, 1) := by decide +kernel
theorem dX9_fault_9 : decode cX9_fault 9 = .ok (.invokevirtual 144, 3) := by decide +kernel
theorem dX9_fault_12 : decode cX9_fault 12 = .ok (.goto 5, 3) := by decide +kernel
theorem dX9_fault_15 : decode cX9_fault 15 = .ok (.bipush (-2), 2) := by decide +kernel
theorem dX9_fault_17 : decode cX9_fault 17 = .ok (.ireturn, 1) := by decide +kernel
theorem dX9_itemOf_0 : decode cX9_itemOf 0 = .ok (.aload_n 0, 1) := by decide +kernel
theorem dX9_itemOf_1 : decode cX9_itemOf 1 = .ok (.iload_n 1, 1) := by decide +kernel
theorem dX9_itemOf_2 : decode cX9_itemOf 2 = .ok (.invokevirtual 141, 3) := by decide +kernel
theorem dX9_itemOf_5 : decode cX9_itemOf 5 = .ok (.aload_n 0, 1) := by decide +kernel
theorem dX9_itemOf_6 : decode cX9_itemOf 6 = .ok (.getfield 23, 3) := by decide +kernel
theorem dX9_itemOf_9 : decode cX9_itemOf 9 = .ok (.bipush 17, 2) := by decide +kernel
theorem dX9_itemOf_11 : decode cX9_itemOf 11 = .ok (.iload_n 1, 1) := by decide +kernel
theorem dX9_itemOf_12 : decode cX9_itemOf 12 = .ok (.imul, 1) := by decide +kernel
theorem dX9_itemOf_13 : decode cX9_itemOf 13 = .ok (.iload_n 2, 1) := by decide +kernel
theorem dX9_itemOf_14 : decode cX9_itemOf 14 = .ok (.iadd, 1) := by decide +kernel
theorem dX9_itemOf_15 : decode cX9_itemOf 15 = .ok (.iaload, 1) := by decide +kernel
theorem dX9_itemOf_16 : decode cX9_itemOf 16 = .ok (.ireturn, 1) := by decide +kernel
theorem dX9_item_0 : decode cX9_item 0 = .ok (.iload_n 1, 1) := by decide +kernel
theorem dX9_item_1 : decode cX9_item 1 = .ok (.invokestatic 110, 3) := by decide +kernel
theorem dX9_item_4 : decode cX9_item 4 = .ok (.ifCond .eq 22, 3) := by decide +kernel
theorem dX9_item_7 : decode cX9_item 7 = .ok (.iload_n 2, 1) := by decide +kernel
theorem dX9_item_8 : decode cX9_item 8 = .ok (.iconst 0, 1) := by decide +kernel
theorem dX9_item_9 : decode cX9_item 9 = .ok (.bipush 16, 2) := by decide +kernel
theorem dX9_item_11 : decode cX9_item 11 = .ok (.invokestatic 106, 3) := by decide +kernel
theorem dX9_item_14 : decode cX9_item 14 = .ok (.ifCond .eq 12, 3) := by decide +kernel
theorem dX9_item_17 : decode cX9_item 17 = .ok (.aload_n 0, 1) := by decide +kernel
theorem dX9_item_18 : decode cX9_item 18 = .ok (.iload_n 1, 1) := by decide +kernel
theorem dX9_item_19 : decode cX9_item 19 = .ok (.iload_n 2, 1) := by decide +kernel
theorem dX9_item_20 : decode cX9_item 20 = .ok (.invokevirtual 147, 3) := by decide +kernel
theorem dX9_item_23 : decode cX9_item 23 = .ok (.goto 5, 3) := by decide +kernel
theorem dX9_item_26 : decode cX9_item 26 = .ok (.bipush (-2), 2) := by decide +kernel
theorem dX9_item_28 : decode cX9_item 28 = .ok (.ireturn, 1) := by decide +kernel
theorem dX9_why_0 : decode cX9_why 0 = .ok (.iload_n 1, 1) := by decide +kernel
theorem dX9_why_1 : decode cX9_why 1 = .ok (.invokestatic 110, 3) := by decide +kernel
theorem dX9_why_4 : decode cX9_why 4 = .ok (.ifCond .eq 23, 3) := by decide +kernel
theorem dX9_why_7 : decode cX9_why 7 = .ok (.iload_n 2, 1) := by decide +kernel
theorem dX9_why_8 : decode cX9_why 8 = .ok (.iconst 0, 1) := by decide +kernel
theorem dX9_why_9 : decode cX9_why 9 = .ok (.bipush 9, 2) := by decide +kernel
theorem dX9_why_11 : decode cX9_why 11 = .ok (.invokestatic 106, 3) := by decide +kernel
theorem dX9_why_14 : decode cX9_why 14 = .ok (.ifCond .eq 13, 3) := by decide +kernel
theorem dX9_why_17 : decode cX9_why 17 = .ok (.iload_n 3, 1) := by decide +kernel
theorem dX9_why_18 : decode cX9_why 18 = .ok (.iconst 0, 1) := by decide +kernel
theorem dX9_why_19 : decode cX9_why 19 = .ok (.bipush 6, 2) := by decide +kernel
theorem dX9_why_21 : decode cX9_why 21 = .ok (.invokestatic 106, 3) := by decide +kernel
theorem dX9_why_24 : decode cX9_why 24 = .ok (.ifCond .ne 6, 3) := by decide +kernel
theorem dX9_why_27 : decode cX9_why 27 = .ok (.bipush (-2), 2) := by decide +kernel
theorem dX9_why_29 : decode cX9_why 29 = .ok (.ireturn, 1) := by decide +kernel
theorem dX9_why_30 : decode cX9_why 30 = .ok (.aload_n 0, 1) := by decide +kernel
theorem dX9_why_31 : decode cX9_why 31 = .ok (.iload_n 1, 1) := by decide +kernel
theorem dX9_why_32 : decode cX9_why 32 = .ok (.invokevirtual 141, 3) := by decide +kernel
theorem dX9_why_35 : decode cX9_why 35 = .ok (.iconst (-1), 1) := by decide +kernel
theorem dX9_why_36 : decode cX9_why 36 = .ok (.istore 4, 2) := by decide +kernel
theorem dX9_why_38 : decode cX9_why 38 = .ok (.iconst 0, 1) := by decide +kernel
theorem dX9_why_39 : decode cX9_why 39 = .ok (.istore 5, 2) := by decide +kernel
theorem dX9_why_41 : decode cX9_why 41 = .ok (.iload 5, 2) := by decide +kernel
theorem dX9_why_43 : decode cX9_why 43 = .ok (.bipush 28, 2) := by decide +kernel
theorem dX9_why_45 : decode cX9_why 45 = .ok (.if_icmp .ge 62, 3) := by decide +kernel
theorem dX9_why_48 : decode cX9_why 48 = .ok (.aload_n 0, 1) := by decide +kernel
theorem dX9_why_49 : decode cX9_why 49 = .ok (.getfield 26, 3) := by decide +kernel
theorem dX9_why_52 : decode cX9_why 52 = .ok (.bipush 28, 2) := by decide +kernel
theorem dX9_why_54 : decode cX9_why 54 = .ok (.iload_n 1, 1) := by decide +kernel
theorem dX9_why_55 : decode cX9_why 55 = .ok (.imul, 1) := by decide +kernel
theorem dX9_why_56 : decode cX9_why 56 = .ok (.iload 5, 2) := by decide +kernel
theorem dX9_why_58 : decode cX9_why 58 = .ok (.iadd, 1) := by decide +kernel
theorem dX9_why_59 : decode cX9_why 59 = .ok (.iaload, 1) := by decide +kernel
theorem dX9_why_60 : decode cX9_why 60 = .ok (.istore 6, 2) := by decide +kernel
theorem dX9_why_62 : decode cX9_why 62 = .ok (.iload 6, 2) := by decide +kernel
theorem dX9_why_64 : decode cX9_why 64 = .ok (.iconst (-1), 1) := by decide +kernel
theorem dX9_why_65 : decode cX9_why 65 = .ok (.if_icmp .eq 32, 3) := by decide +kernel
theorem dX9_why_68 : decode cX9_why 68 = .ok (.iload 6, 2) := by decide +kernel
theorem dX9_why_70 : decode cX9_why 70 = .ok (.sipush 128, 3) := by decide +kernel
theorem dX9_why_73 : decode cX9_why 73 = .ok (.idiv, 1) := by decide +kernel
theorem dX9_why_74 : decode cX9_why 74 = .ok (.iload_n 2, 1) := by decide +kernel
theorem dX9_why_75 : decode cX9_why 75 = .ok (.if_icmp .ne 22, 3) := by decide +kernel
theorem dX9_why_78 : decode cX9_why 78 = .ok (.iload 6, 2) := by decide +kernel
theorem dX9_why_80 : decode cX9_why 80 = .ok (.sipush 128, 3) := by decide +kernel
theorem dX9_why_83 : decode cX9_why 83 = .ok (.irem, 1) := by decide +kernel
theorem dX9_why_84 : decode cX9_why 84 = .ok (.iload_n 3, 1) := by decide +kernel
theorem dX9_why_85 : decode cX9_why 85 = .ok (.ishr, 1) := by decide +kernel
theorem dX9_why_86 : decode cX9_why 86 = .ok (.iconst 1, 1) := by decide +kernel
theorem dX9_why_87 : decode cX9_why 87 = .ok (.iand, 1) := by decide +kernel
theorem dX9_why_88 : decode cX9_why 88 = .ok (.iconst 1, 1) := by decide +kernel
theorem dX9_why_89 : decode cX9_why 89 = .ok (.if_icmp .ne 8, 3) := by decide +kernel
theorem dX9_why_92 : decode cX9_why 92 = .ok (.iload 5, 2) := by decide +kernel
theorem dX9_why_94 : decode cX9_why 94 = .ok (.goto 5, 3) := by decide +kernel
theorem dX9_why_97 : decode cX9_why 97 = .ok (.iload 4, 2) := by decide +kernel
theorem dX9_why_99 : decode cX9_why 99 = .ok (.istore 4, 2) := by decide +kernel
theorem dX9_why_101 : decode cX9_why 101 = .ok (.iinc 5 1, 3) := by decide +kernel
theorem dX9_why_104 : decode cX9_why 104 = .ok (.goto (-63), 3) := by decide +kernel
theorem dX9_why_107 : decode cX9_why 107 = .ok (.iload 4, 2) := by decide +kernel
theorem dX9_why_109 : decode cX9_why 109 = .ok (.ireturn, 1) := by decide +kernel
theorem dX9_differOf_0 : decode cX9_differOf 0 = .ok (.iconst 0, 1) := by decide +kernel
theorem dX9_differOf_1 : decode cX9_differOf 1 = .ok (.istore_n 3, 1) := by decide +kernel
theorem dX9_differOf_2 : decode cX9_differOf 2 = .ok (.iconst 0, 1) := by decide +kernel
theorem dX9_differOf_3 : decode cX9_differOf 3 = .ok (.istore 4, 2) := by decide +kernel
theorem dX9_differOf_5 : decode cX9_differOf 5 = .ok (.iload 4, 2) := by decide +kernel
theorem dX9_differOf_7 : decode cX9_differOf 7 = .ok (.bipush 17, 2) := by decide +kernel
theorem dX9_differOf_9 : decode cX9_differOf 9 = .ok (.if_icmp .ge 37, 3) := by decide +kernel
theorem dX9_differOf_12 : decode cX9_differOf 12 = .ok (.iload_n 3, 1) := by decide +kernel
theorem dX9_differOf_13 : decode cX9_differOf 13 = .ok (.aload_n 0, 1) := by decide +kernel
theorem dX9_differOf_14 : decode cX9_differOf 14 = .ok (.iload_n 1, 1) := by decide +kernel
theorem dX9_differOf_15 : decode cX9_differOf 15 = .ok (.iload 4, 2) := by decide +kernel
theorem dX9_differOf_17 : decode cX9_differOf 17 = .ok (.invokevirtual 147, 3) := by decide +kernel
theorem dX9_differOf_20 : decode cX9_differOf 20 = .ok (.aload_n 0, 1) := by decide +kernel
theorem dX9_differOf_21 : decode cX9_differOf 21 = .ok (.iload_n 2, 1) := by decide +kernel
theorem dX9_differOf_22 : decode cX9_differOf 22 = .ok (.iload 4, 2) := by decide +kernel
theorem dX9_differOf_24 : decode cX9_differOf 24 = .ok (.invokevirtual 147, 3) := by decide +kernel
theorem dX9_differOf_27 : decode cX9_differOf 27 = .ok (.if_icmp .ne 7, 3) := by decide +kernel
theorem dX9_differOf_30 : decode cX9_differOf 30 = .ok (.iconst 0, 1) := by decide +kernel
theorem dX9_differOf_31 : decode cX9_differOf 31 = .ok (.goto 7, 3) := by decide +kernel
theorem dX9_differOf_34 : decode cX9_differOf 34 = .ok (.iconst 1, 1) := by decide +kernel
theorem dX9_differOf_35 : decode cX9_differOf 35 = .ok (.iload 4, 2) := by decide +kernel
theorem dX9_differOf_37 : decode cX9_differOf 37 = .ok (.ishl, 1) := by decide +kernel
theorem dX9_differOf_38 : decode cX9_differOf 38 = .ok (.ior, 1) := by decide +kernel
theorem dX9_differOf_39 : decode cX9_differOf 39 = .ok (.istore_n 3, 1) := by decide +kernel
theorem dX9_differOf_40 : decode cX9_differOf 40 = .ok (.iinc 4 1, 3) := by decide +kernel
theorem dX9_differOf_43 : decode cX9_differOf 43 = .ok (.goto (-38), 3) := by decide +kernel
theorem dX9_differOf_46 : decode cX9_differOf 46 = .ok (.iload_n 3, 1) := by decide +kernel
theorem dX9_differOf_47 : decode cX9_differOf 47 = .ok (.ireturn, 1) := by decide +kernel
theorem dX9_differ_0 : decode cX9_differ 0 = .ok (.iload_n 1, 1) := by decide +kernel
theorem dX9_differ_1 : decode cX9_differ 1 = .ok (.invokestatic 110, 3) := by decide +kernel
theorem dX9_differ_4 : decode cX9_differ 4 = .ok (.ifCond .eq 19, 3) := by decide +kernel
theorem dX9_differ_7 : decode cX9_differ 7 = .ok (.iload_n 2, 1) := by decide +kernel
theorem dX9_differ_8 : decode cX9_differ 8 = .ok (.invokestatic 110, 3) := by decide +kernel
theorem dX9_differ_11 : decode cX9_differ 11 = .ok (.ifCond .eq 12, 3) := by decide +kernel
theorem dX9_differ_14 : decode cX9_differ 14 = .ok (.aload_n 0, 1) := by decide +kernel
theorem dX9_differ_15 : decode cX9_differ 15 = .ok (.iload_n 1, 1) := by decide +kernel
theorem dX9_differ_16 : decode cX9_differ 16 = .ok (.iload_n 2, 1) := by decide +kernel
theorem dX9_differ_17 : decode cX9_differ 17 = .ok (.invokevirtual 151, 3) := by decide +kernel
theorem dX9_differ_20 : decode cX9_differ 20 = .ok (.goto 5, 3) := by decide +kernel
theorem dX9_differ_23 : decode cX9_differ 23 = .ok (.bipush (-2), 2) := by decide +kernel
theorem dX9_differ_25 : decode cX9_differ 25 = .ok (.ireturn, 1) := by decide +kernel
theorem dX9_mix_0 : decode cX9_mix 0 = .ok (.iconst 0, 1) := by decide +kernel
theorem dX9_mix_1 : decode cX9_mix 1 = .ok (.istore 4, 2) := by decide +kernel
theorem dX9_mix_3 : decode cX9_mix 3 = .ok (.iload 4, 2) := by decide +kernel
theorem dX9_mix_5 : decode cX9_mix 5 = .ok (.bipush 17, 2) := by decide +kernel
theorem dX9_mix_7 : decode cX9_mix 7 = .ok (.if_icmp .ge 37, 3) := by decide +kernel
theorem dX9_mix_10 : decode cX9_mix 10 = .ok (.aload_n 0, 1) := by decide +kernel
theorem dX9_mix_11 : decode cX9_mix 11 = .ok (.getfield 29, 3) := by decide +kernel
theorem dX9_mix_14 : decode cX9_mix 14 = .ok (.iload 4, 2) := by decide +kernel
theorem dX9_mix_16 : decode cX9_mix 16 = .ok (.aload_n 0, 1) := by decide +kernel
theorem dX9_mix_17 : decode cX9_mix 17 = .ok (.iload_n 3, 1) := by decide +kernel
theorem dX9_mix_18 : decode cX9_mix 18 = .ok (.iload 4, 2) := by decide +kernel
theorem dX9_mix_20 : decode cX9_mix 20 = .ok (.ishr, 1) := by decide +kernel
theorem dX9_mix_21 : decode cX9_mix 21 = .ok (.iconst 1, 1) := by decide +kernel
theorem dX9_mix_22 : decode cX9_mix 22 = .ok (.iand, 1) := by decide +kernel
theorem dX9_mix_23 : decode cX9_mix 23 = .ok (.iconst 1, 1) := by decide +kernel
theorem dX9_mix_24 : decode cX9_mix 24 = .ok (.if_icmp .ne 7, 3) := by decide +kernel
theorem dX9_mix_27 : decode cX9_mix 27 = .ok (.iload_n 2, 1) := by decide +kernel
theorem dX9_mix_28 : decode cX9_mix 28 = .ok (.goto 4, 3) := by decide +kernel
theorem dX9_mix_31 : decode cX9_mix 31 = .ok (.iload_n 1, 1) := by decide +kernel
theorem dX9_mix_32 : decode cX9_mix 32 = .ok (.iload 4, 2) := by decide +kernel
theorem dX9_mix_34 : decode cX9_mix 34 = .ok (.invokevirtual 147, 3) := by decide +kernel
theorem dX9_mix_37 : decode cX9_mix 37 = .ok (.iastore, 1) := by decide +kernel
theorem dX9_mix_38 : decode cX9_mix 38 = .ok (.iinc 4 1, 3) := by decide +kernel
theorem dX9_mix_41 : decode cX9_mix 41 = .ok (.goto (-38), 3) := by decide +kernel
theorem dX9_mix_44 : decode cX9_mix 44 = .ok (.return_, 1) := by decide +kernel
theorem dX9_begins_0 : decode cX9_begins 0 = .ok (.aload_n 0, 1) := by decide +kernel
theorem dX9_begins_1 : decode cX9_begins 1 = .ok (.iconst 3, 1) := by decide +kernel
theorem dX9_begins_2 : decode cX9_begins 2 = .ok (.putfield 154, 3) := by decide +kernel
theorem dX9_begins_5 : decode cX9_begins 5 = .ok (.aload_n 0, 1) := by decide +kernel
theorem dX9_begins_6 : decode cX9_begins 6 = .ok (.iconst 2, 1) := by decide +kernel
theorem dX9_begins_7 : decode cX9_begins 7 = .ok (.putfield 157, 3) := by decide +kernel
theorem dX9_begins_10 : decode cX9_begins 10 = .ok (.aload_n 0, 1) := by decide +kernel
theorem dX9_begins_11 : decode cX9_begins 11 = .ok (.iconst 0, 1) := by decide +kernel
theorem dX9_begins_12 : decode cX9_begins 12 = .ok (.putfield 160, 3) := by decide +kernel
theorem dX9_begins_15 : decode cX9_begins 15 = .ok (.aload_n 0, 1) := by decide +kernel
theorem dX9_begins_16 : decode cX9_begins 16 = .ok (.iconst 0, 1) := by decide +kernel
theorem dX9_begins_17 : decode cX9_begins 17 = .ok (.putfield 163, 3) := by decide +kernel
theorem dX9_begins_20 : decode cX9_begins 20 = .ok (.aload_n 0, 1) := by decide +kernel
theorem dX9_begins_21 : decode cX9_begins 21 = .ok (.iconst 0, 1) := by decide +kernel
theorem dX9_begins_22 : decode cX9_begins 22 = .ok (.putfield 166, 3) := by decide +kernel
theorem dX9_begins_25 : decode cX9_begins 25 = .ok (.return_, 1) := by decide +kernel
theorem dX9_ownCell_0 : decode cX9_ownCell 0 = .ok (.iload_n 0, 1) := by decide +kernel
theorem dX9_ownCell_1 : decode cX9_ownCell 1 = .ok (.ifCond .ne 7, 3) := by decide +kernel
theorem dX9_ownCell_4 : decode cX9_ownCell 4 = .ok (.iload_n 1, 1) := by decide +kernel
theorem dX9_ownCell_5 : decode cX9_ownCell 5 = .ok (.goto 7, 3) := by decide +kernel
theorem dX9_ownCell_8 : decode cX9_ownCell 8 = .ok (.bipush 6, 2) := by decide +kernel
theorem dX9_ownCell_10 : decode cX9_ownCell 10 = .ok (.iload_n 1, 1) := by decide +kernel
theorem dX9_ownCell_11 : decode cX9_ownCell 11 = .ok (.isub, 1) := by decide +kernel
theorem dX9_ownCell_12 : decode cX9_ownCell 12 = .ok (.ireturn, 1) := by decide +kernel
theorem dX9_on_0 : decode cX9_on 0 = .ok (.iload_n 0, 1) := by decide +kernel
theorem dX9_on_1 : decode cX9_on 1 = .ok (.iload_n 1, 1) := by decide +kernel
theorem dX9_on_2 : decode cX9_on 2 = .ok (.invokestatic 169, 3) := by decide +kernel
theorem dX9_on_5 : decode cX9_on 5 = .ok (.iload_n 2, 1) := by decide +kernel
theorem dX9_on_6 : decode cX9_on 6 = .ok (.iadd, 1) := by decide +kernel
theorem dX9_on_7 : decode cX9_on 7 = .ok (.istore_n 3, 1) := by decide +kernel
theorem dX9_on_8 : decode cX9_on 8 = .ok (.iload_n 0, 1) := by decide +kernel
theorem dX9_on_9 : decode cX9_on 9 = .ok (.iload_n 3, 1) := by decide +kernel
theorem dX9_on_10 : decode cX9_on 10 = .ok (.ifCond .ge 7, 3) := by decide +kernel
theorem dX9_on_13 : decode cX9_on 13 = .ok (.iconst 0, 1) := by decide +kernel
theorem dX9_on_14 : decode cX9_on 14 = .ok (.goto 15, 3) := by decide +kernel
theorem dX9_on_17 : decode cX9_on 17 = .ok (.iload_n 3, 1) := by decide +kernel
theorem dX9_on_18 : decode cX9_on 18 = .ok (.bipush 6, 2) := by decide +kernel
theorem dX9_on_20 : decode cX9_on 20 = .ok (.if_icmp .le 8, 3) := by decide +kernel
theorem dX9_on_23 : decode cX9_on 23 = .ok (.bipush 6, 2) := by decide +kernel
theorem dX9_on_25 : decode cX9_on 25 = .ok (.goto 4, 3) := by decide +kernel
theorem dX9_on_28 : decode cX9_on 28 = .ok (.iload_n 3, 1) := by decide +kernel
theorem dX9_on_29 : decode cX9_on 29 = .ok (.invokestatic 169, 3) := by decide +kernel
theorem dX9_on_32 : decode cX9_on 32 = .ok (.ireturn, 1) := by decide +kernel
theorem dX9_canBe_0 : decode cX9_canBe 0 = .ok (.aload_n 0, 1) := by decide +kernel
theorem dX9_canBe_1 : decode cX9_canBe 1 = .ok (.getfield 157, 3) := by decide +kernel
theorem dX9_canBe_4 : decode cX9_canBe 4 = .ok (.iload_n 1, 1) := by decide +kernel
theorem dX9_canBe_5 : decode cX9_canBe 5 = .ok (.if_icmp .ne 7, 3) := by decide +kernel
theorem dX9_canBe_8 : decode cX9_canBe 8 = .ok (.iconst 1, 1) := by decide +kernel
theorem dX9_canBe_9 : decode cX9_canBe 9 = .ok (.goto 4, 3) := by decide +kernel
theorem dX9_canBe_12 : decode cX9_canBe 12 = .ok (.iconst 0, 1) := by decide +kernel
theorem dX9_canBe_13 : decode cX9_canBe 13 = .ok (.istore_n 3, 1) := by decide +kernel
theorem dX9_canBe_14 : decode cX9_canBe 14 = .ok (.bipush 6, 2) := by decide +kernel
theorem dX9_canBe_16 : decode cX9_canBe 16 = .ok (.iload_n 1, 1) := by decide +kernel
theorem dX9_canBe_17 : decode cX9_canBe 17 = .ok (.aload_n 0, 1) := by decide +kernel
theorem dX9_canBe_18 : decode cX9_canBe 18 = .ok (.getfield 154, 3) := by decide +kernel
theorem dX9_canBe_21 : decode cX9_canBe 21 = .ok (.invokestatic 169, 3) := by decide +kernel
theorem dX9_canBe_24 : decode cX9_canBe 24 = .ok (.isub, 1) := by decide +kernel
theorem dX9_canBe_25 : decode cX9_canBe 25 = .ok (.istore 4, 2) := by decide +kernel
theorem dX9_canBe_27 : decode cX9_canBe 27 = .ok (.iload_n 2, 1) := by decide +kernel
theorem dX9_canBe_28 : decode cX9_canBe 28 = .ok (.tableswitch 166 0 8 #[52, 69, 52, 87, 101, 116, 116, 134, 150], 52) := by decide +kernel
theorem dX9_canBe_80 : decode cX9_canBe 80 = .ok (.iload_n 3, 1) := by decide +kernel
theorem dX9_canBe_81 : decode cX9_canBe 81 = .ok (.ifCond .eq 14, 3) := by decide +kernel
theorem dX9_canBe_84 : decode cX9_canBe 84 = .ok (.aload_n 0, 1) := by decide +kernel
theorem dX9_canBe_85 : decode cX9_canBe 85 = .ok (.getfield 160, 3) := by decide +kernel
theorem dX9_canBe_88 : decode cX9_canBe 88 = .ok (.ifCond .ne 7, 3) := by decide +kernel
theorem dX9_canBe_91 : decode cX9_canBe 91 = .ok (.iconst 1, 1) := by decide +kernel
theorem dX9_canBe_92 : decode cX9_canBe 92 = .ok (.goto 4, 3) := by decide +kernel
theorem dX9_canBe_95 : decode cX9_canBe 95 = .ok (.iconst 0, 1) := by decide +kernel
theorem dX9_canBe_96 : decode cX9_canBe 96 = .ok (.ireturn, 1) := by decide +kernel
theorem dX9_canBe_97 : decode cX9_canBe 97 = .ok (.iload_n 3, 1) := by decide +kernel
theorem dX9_canBe_98 : decode cX9_canBe 98 = .ok (.ifCond .ne 15, 3) := by decide +kernel
theorem dX9_canBe_101 : decode cX9_canBe 101 = .ok (.aload_n 0, 1) := by decide +kernel
theorem dX9_canBe_102 : decode cX9_canBe 102 = .ok (.getfield 160, 3) := by decide +kernel
theorem dX9_canBe_105 : decode cX9_canBe 105 = .ok (.iconst 1, 1) := by decide +kernel
theorem dX9_canBe_106 : decode cX9_canBe 106 = .ok (.if_icmp .eq 7, 3) := by decide +kernel
theorem dX9_canBe_109 : decode cX9_canBe 109 = .ok (.iconst 1, 1) := by decide +kernel
theorem dX9_canBe_110 : decode cX9_canBe 110 = .ok (.goto 4, 3) := by decide +kernel
theorem dX9_canBe_113 : decode cX9_canBe 113 = .ok (.iconst 0, 1) := by decide +kernel
theorem dX9_canBe_114 : decode cX9_canBe 114 = .ok (.ireturn, 1) := by decide +kernel
theorem dX9_canBe_115 : decode cX9_canBe 115 = .ok (.aload_n 0, 1) := by decide +kernel
theorem dX9_canBe_116 : decode cX9_canBe 116 = .ok (.getfield 160, 3) := by decide +kernel
theorem dX9_canBe_119 : decode cX9_canBe 119 = .ok (.iconst 2, 1) := by decide +kernel
theorem dX9_canBe_120 : decode cX9_canBe 120 = .ok (.if_icmp .ne 7, 3) := by decide +kernel
theorem dX9_canBe_123 : decode cX9_canBe 123 = .ok (.iconst 1, 1) := by decide +kernel
theorem dX9_canBe_124 : decode cX9_canBe 124 = .ok (.goto 4, 3) := by decide +kernel
theorem dX9_canBe_127 : decode cX9_canBe 127 = .ok (.iconst 0, 1) := by decide +kernel
theorem dX9_canBe_128 : decode cX9_canBe 128 = .ok (.ireturn, 1) := by decide +kernel
theorem dX9_canBe_129 : decode cX9_canBe 129 = .ok (.iload_n 3, 1) := by decide +kernel
theorem dX9_canBe_130 : decode cX9_canBe 130 = .ok (.ifCond .eq 12, 3) := by decide +kernel
theorem dX9_canBe_133 : decode cX9_canBe 133 = .ok (.iload 4, 2) := by decide +kernel
theorem dX9_canBe_135 : decode cX9_canBe 135 = .ok (.ifCond .le 7, 3) := by decide +kernel
theorem dX9_canBe_138 : decode cX9_canBe 138 = .ok (.iconst 1, 1) := by decide +kernel
theorem dX9_canBe_139 : decode cX9_canBe 139 = .ok (.goto 4, 3) := by decide +kernel
theorem dX9_canBe_142 : decode cX9_canBe 142 = .ok (.iconst 0, 1) := by decide +kernel
theorem dX9_canBe_143 : decode cX9_canBe 143 = .ok (.ireturn, 1) := by decide +kernel
theorem dX9_canBe_144 : decode cX9_canBe 144 = .ok (.iload_n 3, 1) := by decide +kernel
theorem dX9_canBe_145 : decode cX9_canBe 145 = .ok (.ifCond .eq 15, 3) := by decide +kernel
theorem dX9_canBe_148 : decode cX9_canBe 148 = .ok (.aload_n 0, 1) := by decide +kernel
theorem dX9_canBe_149 : decode cX9_canBe 149 = .ok (.getfield 160, 3) := by decide +kernel
theorem dX9_canBe_152 : decode cX9_canBe 152 = .ok (.iconst 1, 1) := by decide +kernel
theorem dX9_canBe_153 : decode cX9_canBe 153 = .ok (.if_icmp .ne 7, 3) := by decide +kernel
theorem dX9_canBe_156 : decode cX9_canBe 156 = .ok (.iconst 1, 1) := by decide +kernel
theorem dX9_canBe_157 : decode cX9_canBe 157 = .ok (.goto 4, 3) := by decide +kernel
theorem dX9_canBe_160 : decode cX9_canBe 160 = .ok (.iconst 0, 1) := by decide +kernel
theorem dX9_canBe_161 : decode cX9_canBe 161 = .ok (.ireturn, 1) := by decide +kernel
theorem dX9_canBe_162 : decode cX9_canBe 162 = .ok (.aload_n 0, 1) := by decide +kernel
theorem dX9_canBe_163 : decode cX9_canBe 163 = .ok (.getfield 157, 3) := by decide +kernel
theorem dX9_canBe_166 : decode cX9_canBe 166 = .ok (.iconst 1, 1) := by decide +kernel
theorem dX9_canBe_167 : decode cX9_canBe 167 = .ok (.iload_n 1, 1) := by decide +kernel
theorem dX9_canBe_168 : decode cX9_canBe 168 = .ok (.isub, 1) := by decide +kernel
theorem dX9_canBe_169 : decode cX9_canBe 169 = .ok (.if_icmp .ne 7, 3) := by decide +kernel
theorem dX9_canBe_172 : decode cX9_canBe 172 = .ok (.iconst 1, 1) := by decide +kernel
theorem dX9_canBe_173 : decode cX9_canBe 173 = .ok (.goto 4, 3) := by decide +kernel
theorem dX9_canBe_176 : decode cX9_canBe 176 = .ok (.iconst 0, 1) := by decide +kernel
theorem dX9_canBe_177 : decode cX9_canBe 177 = .ok (.ireturn, 1) := by decide +kernel
theorem dX9_canBe_178 : decode cX9_canBe 178 = .ok (.iload_n 3, 1) := by decide +kernel
theorem dX9_canBe_179 : decode cX9_canBe 179 = .ok (.ifCond .eq 13, 3) := by decide +kernel
theorem dX9_canBe_182 : decode cX9_canBe 182 = .ok (.iload 4, 2) := by decide +kernel
theorem dX9_canBe_184 : decode cX9_canBe 184 = .ok (.iconst 2, 1) := by decide +kernel
theorem dX9_canBe_185 : decode cX9_canBe 185 = .ok (.if_icmp .gt 7, 3) := by decide +kernel
theorem dX9_canBe_188 : decode cX9_canBe 188 = .ok (.iconst 1, 1) := by decide +kernel
theorem dX9_canBe_189 : decode cX9_canBe 189 = .ok (.goto 4, 3) := by decide +kernel
theorem dX9_canBe_192 : decode cX9_canBe 192 = .ok (.iconst 0, 1) := by decide +kernel
theorem dX9_canBe_193 : decode cX9_canBe 193 = .ok (.ireturn, 1) := by decide +kernel
theorem dX9_canBe_194 : decode cX9_canBe 194 = .ok (.iload_n 3, 1) := by decide +kernel
theorem dX9_canBe_195 : decode cX9_canBe 195 = .ok (.ifCond .eq 20, 3) := by decide +kernel
theorem dX9_canBe_198 : decode cX9_canBe 198 = .ok (.aload_n 0, 1) := by decide +kernel
theorem dX9_canBe_199 : decode cX9_canBe 199 = .ok (.getfield 160, 3) := by decide +kernel
theorem dX9_canBe_202 : decode cX9_canBe 202 = .ok (.ifCond .ne 13, 3) := by decide +kernel
theorem dX9_canBe_205 : decode cX9_canBe 205 = .ok (.iload 4, 2) := by decide +kernel
theorem dX9_canBe_207 : decode cX9_canBe 207 = .ok (.iconst 1, 1) := by decide +kernel
theorem dX9_canBe_208 : decode cX9_canBe 208 = .ok (.if_icmp .gt 7, 3) := by decide +kernel
theorem dX9_canBe_211 : decode cX9_canBe 211 = .ok (.iconst 1, 1) := by decide +kernel
theorem dX9_canBe_212 : decode cX9_canBe 212 = .ok (.goto 4, 3) := by decide +kernel
theorem dX9_canBe_215 : decode cX9_canBe 215 = .ok (.iconst 0, 1) := by decide +kernel
theorem dX9_canBe_216 : decode cX9_canBe 216 = .ok (.ireturn, 1) := by decide +kernel
theorem dX9_ball_0 : decode cX9_ball 0 = .ok (.aload_n 0, 1) := by decide +kernel
theorem dX9_ball_1 : decode cX9_ball 1 = .ok (.iload_n 1, 1) := by decide +kernel
theorem dX9_ball_2 : decode cX9_ball 2 = .ok (.putfield 154, 3) := by decide +kernel
theorem dX9_ball_5 : decode cX9_ball 5 = .ok (.aload_n 0, 1) := by decide +kernel
theorem dX9_ball_6 : decode cX9_ball 6 = .ok (.iload_n 2, 1) := by decide +kernel
theorem dX9_ball_7 : decode cX9_ball 7 = .ok (.putfield 157, 3) := by decide +kernel
theorem dX9_ball_10 : decode cX9_ball 10 = .ok (.aload_n 0, 1) := by decide +kernel
theorem dX9_ball_11 : decode cX9_ball 11 = .ok (.iload_n 3, 1) := by decide +kernel
theorem dX9_ball_12 : decode cX9_ball 12 = .ok (.putfield 160, 3) := by decide +kernel
theorem dX9_ball_15 : decode cX9_ball 15 = .ok (.return_, 1) := by decide +kernel
theorem dX9_scores_0 : decode cX9_scores 0 = .ok (.aload_n 0, 1) := by decide +kernel
theorem dX9_scores_1 : decode cX9_scores 1 = .ok (.getfield 29, 3) := by decide +kernel
theorem dX9_scores_4 : decode cX9_scores 4 = .ok (.iload_n 2, 1) := by decide +kernel
theorem dX9_scores_5 : decode cX9_scores 5 = .ok (.iconst 4, 1) := by decide +kernel
theorem dX9_scores_6 : decode cX9_scores 6 = .ok (.if_icmp .ne 8, 3) := by decide +kernel
theorem dX9_scores_9 : decode cX9_scores 9 = .ok (.bipush 10, 2) := by decide +kernel
theorem dX9_scores_11 : decode cX9_scores 11 = .ok (.goto 6, 3) := by decide +kernel
theorem dX9_scores_14 : decode cX9_scores 14 = .ok (.iload_n 2, 1) := by decide +kernel
theorem dX9_scores_15 : decode cX9_scores 15 = .ok (.iconst 3, 1) := by decide +kernel
theorem dX9_scores_16 : decode cX9_scores 16 = .ok (.iadd, 1) := by decide +kernel
theorem dX9_scores_17 : decode cX9_scores 17 = .ok (.iaload, 1) := by decide +kernel
theorem dX9_scores_18 : decode cX9_scores 18 = .ok (.istore_n 3, 1) := by decide +kernel
theorem dX9_scores_19 : decode cX9_scores 19 = .ok (.aload_n 0, 1) := by decide +kernel
theorem dX9_scores_20 : decode cX9_scores 20 = .ok (.dup, 1) := by decide +kernel
theorem dX9_scores_21 : decode cX9_scores 21 = .ok (.getfield 163, 3) := by decide +kernel
theorem dX9_scores_24 : decode cX9_scores 24 = .ok (.iload_n 1, 1) := by decide +kernel
theorem dX9_scores_25 : decode cX9_scores 25 = .ok (.ifCond .ne 7, 3) := by decide +kernel
theorem dX9_scores_28 : decode cX9_scores 28 = .ok (.iload_n 3, 1) := by decide +kernel
theorem dX9_scores_29 : decode cX9_scores 29 = .ok (.goto 4, 3) := by decide +kernel
theorem dX9_scores_32 : decode cX9_scores 32 = .ok (.iconst 0, 1) := by decide +kernel
theorem dX9_scores_33 : decode cX9_scores 33 = .ok (.iadd, 1) := by decide +kernel
theorem dX9_scores_34 : decode cX9_scores 34 = .ok (.putfield 163, 3) := by decide +kernel
theorem dX9_scores_37 : decode cX9_scores 37 = .ok (.aload_n 0, 1) := by decide +kernel
theorem dX9_scores_38 : decode cX9_scores 38 = .ok (.dup, 1) := by decide +kernel
theorem dX9_scores_39 : decode cX9_scores 39 = .ok (.getfield 166, 3) := by decide +kernel
theorem dX9_scores_42 : decode cX9_scores 42 = .ok (.iload_n 1, 1) := by decide +kernel
theorem dX9_scores_43 : decode cX9_scores 43 = .ok (.iconst 1, 1) := by decide +kernel
theorem dX9_scores_44 : decode cX9_scores 44 = .ok (.if_icmp .ne 7, 3) := by decide +kernel
theorem dX9_scores_47 : decode cX9_scores 47 = .ok (.iload_n 3, 1) := by decide +kernel
theorem dX9_scores_48 : decode cX9_scores 48 = .ok (.goto 4, 3) := by decide +kernel
theorem dX9_scores_51 : decode cX9_scores 51 = .ok (.iconst 0, 1) := by decide +kernel
theorem dX9_scores_52 : decode cX9_scores 52 = .ok (.iadd, 1) := by decide +kernel
theorem dX9_scores_53 : decode cX9_scores 53 = .ok (.putfield 166, 3) := by decide +kernel
theorem dX9_scores_56 : decode cX9_scores 56 = .ok (.iload_n 3, 1) := by decide +kernel
theorem dX9_scores_57 : decode cX9_scores 57 = .ok (.ifCond .le 44, 3) := by decide +kernel
theorem dX9_scores_60 : decode cX9_scores 60 = .ok (.aload_n 0, 1) := by decide +kernel
theorem dX9_scores_61 : decode cX9_scores 61 = .ok (.iconst 3, 1) := by decide +kernel
theorem dX9_scores_62 : decode cX9_scores 62 = .ok (.aload_n 0, 1) := by decide +kernel
theorem dX9_scores_63 : decode cX9_scores 63 = .ok (.getfield 29, 3) := by decide +kernel
theorem dX9_scores_66 : decode cX9_scores 66 = .ok (.bipush 14, 2) := by decide +kernel
theorem dX9_scores_68 : decode cX9_scores 68 = .ok (.iaload, 1) := by decide +kernel
theorem dX9_scores_69 : decode cX9_scores 69 = .ok (.ifCond .ne 7, 3) := by decide +kernel
theorem dX9_scores_72 : decode cX9_scores 72 = .ok (.iconst 2, 1) := by decide +kernel
theorem dX9_scores_73 : decode cX9_scores 73 = .ok (.goto 21, 3) := by decide +kernel
theorem dX9_scores_76 : decode cX9_scores 76 = .ok (.aload_n 0, 1) := by decide +kernel
theorem dX9_scores_77 : decode cX9_scores 77 = .ok (.getfield 29, 3) := by decide +kernel
theorem dX9_scores_80 : decode cX9_scores 80 = .ok (.bipush 14, 2) := by decide +kernel
theorem dX9_scores_82 : decode cX9_scores 82 = .ok (.iaload, 1) := by decide +kernel
theorem dX9_scores_83 : decode cX9_scores 83 = .ok (.iconst 1, 1) := by decide +kernel
theorem dX9_scores_84 : decode cX9_scores 84 = .ok (.if_icmp .ne 9, 3) := by decide +kernel
theorem dX9_scores_87 : decode cX9_scores 87 = .ok (.iconst 1, 1) := by decide +kernel
theorem dX9_scores_88 : decode cX9_scores 88 = .ok (.iload_n 1, 1) := by decide +kernel
theorem dX9_scores_89 : decode cX9_scores 89 = .ok (.isub, 1) := by decide +kernel
theorem dX9_scores_90 : decode cX9_scores 90 = .ok (.goto 4, 3) := by decide +kernel
theorem dX9_scores_93 : decode cX9_scores 93 = .ok (.iload_n 1, 1) := by decide +kernel
theorem dX9_scores_94 : decode cX9_scores 94 = .ok (.iconst 0, 1) := by decide +kernel
theorem dX9_scores_95 : decode cX9_scores 95 = .ok (.invokevirtual 172, 3) := by decide +kernel
theorem dX9_scores_98 : decode cX9_scores 98 = .ok (.goto 25, 3) := by decide +kernel
theorem dX9_scores_101 : decode cX9_scores 101 = .ok (.iload_n 2, 1) := by decide +kernel
theorem dX9_scores_102 : decode cX9_scores 102 = .ok (.bipush 7, 2) := by decide +kernel
theorem dX9_scores_104 : decode cX9_scores 104 = .ok (.if_icmp .le 19, 3) := by decide +kernel
theorem dX9_scores_107 : decode cX9_scores 107 = .ok (.aload_n 0, 1) := by decide +kernel
theorem dX9_scores_108 : decode cX9_scores 108 = .ok (.iload_n 1, 1) := by decide +kernel
theorem dX9_scores_109 : decode cX9_scores 109 = .ok (.aload_n 0, 1) := by decide +kernel
theorem dX9_scores_110 : decode cX9_scores 110 = .ok (.getfield 154, 3) := by decide +kernel
theorem dX9_scores_113 : decode cX9_scores 113 = .ok (.bipush 6, 2) := by decide +kernel
theorem dX9_scores_115 : decode cX9_scores 115 = .ok (.invokestatic 176, 3) := by decide +kernel
theorem dX9_scores_118 : decode cX9_scores 118 = .ok (.iconst 2, 1) := by decide +kernel
theorem dX9_scores_119 : decode cX9_scores 119 = .ok (.iconst 0, 1) := by decide +kernel
theorem dX9_scores_120 : decode cX9_scores 120 = .ok (.invokevirtual 172, 3) := by decide +kernel
theorem dX9_scores_123 : decode cX9_scores 123 = .ok (.return_, 1) := by decide +kernel
theorem dX9_does_0 : decode cX9_does 0 = .ok (.iload_n 2, 1) := by decide +kernel
theorem dX9_does_1 : decode cX9_does 1 = .ok (.tableswitch 170 0 7 #[47, 65, 78, 78, 91, 139, 47, 157], 47) := by decide +kernel
theorem dX9_does_48 : decode cX9_does 48 = .ok (.aload_n 0, 1) := by decide +kernel
theorem dX9_does_49 : decode cX9_does 49 = .ok (.iload_n 1, 1) := by decide +kernel
theorem dX9_does_50 : decode cX9_does 50 = .ok (.aload_n 0, 1) := by decide +kernel
theorem dX9_does_51 : decode cX9_does 51 = .ok (.getfield 154, 3) := by decide +kernel
theorem dX9_does_54 : decode cX9_does 54 = .ok (.iconst 2, 1) := by decide +kernel
theorem dX9_does_55 : decode cX9_does 55 = .ok (.invokestatic 176, 3) := by decide +kernel
theorem dX9_does_58 : decode cX9_does 58 = .ok (.iconst 2, 1) := by decide +kernel
theorem dX9_does_59 : decode cX9_does 59 = .ok (.iconst 2, 1) := by decide +kernel
theorem dX9_does_60 : decode cX9_does 60 = .ok (.invokevirtual 172, 3) := by decide +kernel
theorem dX9_does_63 : decode cX9_does 63 = .ok (.goto 114, 3) := by decide +kernel
theorem dX9_does_66 : decode cX9_does 66 = .ok (.aload_n 0, 1) := by decide +kernel
theorem dX9_does_67 : decode cX9_does 67 = .ok (.aload_n 0, 1) := by decide +kernel
theorem dX9_does_68 : decode cX9_does 68 = .ok (.getfield 154, 3) := by decide +kernel
theorem dX9_does_71 : decode cX9_does 71 = .ok (.iload_n 1, 1) := by decide +kernel
theorem dX9_does_72 : decode cX9_does 72 = .ok (.iconst 0, 1) := by decide +kernel
theorem dX9_does_73 : decode cX9_does 73 = .ok (.invokevirtual 172, 3) := by decide +kernel
theorem dX9_does_76 : decode cX9_does 76 = .ok (.goto 101, 3) := by decide +kernel
theorem dX9_does_79 : decode cX9_does 79 = .ok (.aload_n 0, 1) := by decide +kernel
theorem dX9_does_80 : decode cX9_does 80 = .ok (.aload_n 0, 1) := by decide +kernel
theorem dX9_does_81 : decode cX9_does 81 = .ok (.getfield 154, 3) := by decide +kernel
theorem dX9_does_84 : decode cX9_does 84 = .ok (.iload_n 1, 1) := by decide +kernel
theorem dX9_does_85 : decode cX9_does 85 = .ok (.iconst 1, 1) := by decide +kernel
theorem dX9_does_86 : decode cX9_does 86 = .ok (.invokevirtual 172, 3) := by decide +kernel
theorem dX9_does_89 : decode cX9_does 89 = .ok (.goto 88, 3) := by decide +kernel
theorem dX9_does_92 : decode cX9_does 92 = .ok (.aload_n 0, 1) := by decide +kernel
theorem dX9_does_93 : decode cX9_does 93 = .ok (.iload_n 1, 1) := by decide +kernel
theorem dX9_does_94 : decode cX9_does 94 = .ok (.aload_n 0, 1) := by decide +kernel
theorem dX9_does_95 : decode cX9_does 95 = .ok (.getfield 154, 3) := by decide +kernel
theorem dX9_does_98 : decode cX9_does 98 = .ok (.iconst 1, 1) := by decide +kernel
theorem dX9_does_99 : decode cX9_does 99 = .ok (.invokestatic 176, 3) := by decide +kernel
theorem dX9_does_102 : decode cX9_does 102 = .ok (.iload_n 1, 1) := by decide +kernel
theorem dX9_does_103 : decode cX9_does 103 = .ok (.aload_n 0, 1) := by decide +kernel
theorem dX9_does_104 : decode cX9_does 104 = .ok (.getfield 160, 3) := by decide +kernel
theorem dX9_does_107 : decode cX9_does 107 = .ok (.invokevirtual 172, 3) := by decide +kernel
theorem dX9_does_110 : decode cX9_does 110 = .ok (.aload_n 0, 1) := by decide +kernel
theorem dX9_does_111 : decode cX9_does 111 = .ok (.getfield 160, 3) := by decide +kernel
theorem dX9_does_114 : decode cX9_does 114 = .ok (.iconst 1, 1) := by decide +kernel
theorem dX9_does_115 : decode cX9_does 115 = .ok (.if_icmp .ne 62, 3) := by decide +kernel
theorem dX9_does_118 : decode cX9_does 118 = .ok (.iload_n 1, 1) := by decide +kernel
theorem dX9_does_119 : decode cX9_does 119 = .ok (.aload_n 0, 1) := by decide +kernel
theorem dX9_does_120 : decode cX9_does 120 = .ok (.getfield 154, 3) := by decide +kernel
theorem dX9_does_123 : decode cX9_does 123 = .ok (.invokestatic 169, 3) := by decide +kernel
theorem dX9_does_126 : decode cX9_does 126 = .ok (.bipush 6, 2) := by decide +kernel
theorem dX9_does_128 : decode cX9_does 128 = .ok (.if_icmp .ne 49, 3) := by decide +kernel
theorem dX9_does_131 : decode cX9_does 131 = .ok (.aload_n 0, 1) := by decide +kernel
theorem dX9_does_132 : decode cX9_does 132 = .ok (.iload_n 1, 1) := by decide +kernel
theorem dX9_does_133 : decode cX9_does 133 = .ok (.iload_n 2, 1) := by decide +kernel
theorem dX9_does_134 : decode cX9_does 134 = .ok (.invokevirtual 179, 3) := by decide +kernel
theorem dX9_does_137 : decode cX9_does 137 = .ok (.goto 40, 3) := by decide +kernel
theorem dX9_does_140 : decode cX9_does 140 = .ok (.aload_n 0, 1) := by decide +kernel
theorem dX9_does_141 : decode cX9_does 141 = .ok (.iload_n 1, 1) := by decide +kernel
theorem dX9_does_142 : decode cX9_does 142 = .ok (.aload_n 0, 1) := by decide +kernel
theorem dX9_does_143 : decode cX9_does 143 = .ok (.getfield 154, 3) := by decide +kernel
theorem dX9_does_146 : decode cX9_does 146 = .ok (.iconst (-1), 1) := by decide +kernel
theorem dX9_does_147 : decode cX9_does 147 = .ok (.invokestatic 176, 3) := by decide +kernel
theorem dX9_does_150 : decode cX9_does 150 = .ok (.iconst 2, 1) := by decide +kernel
theorem dX9_does_151 : decode cX9_does 151 = .ok (.iconst 2, 1) := by decide +kernel
theorem dX9_does_152 : decode cX9_does 152 = .ok (.invokevirtual 172, 3) := by decide +kernel
theorem dX9_does_155 : decode cX9_does 155 = .ok (.goto 22, 3) := by decide +kernel
theorem dX9_does_158 : decode cX9_does 158 = .ok (.aload_n 0, 1) := by decide +kernel
theorem dX9_does_159 : decode cX9_does 159 = .ok (.aload_n 0, 1) := by decide +kernel
theorem dX9_does_160 : decode cX9_does 160 = .ok (.getfield 154, 3) := by decide +kernel
theorem dX9_does_163 : decode cX9_does 163 = .ok (.iconst 2, 1) := by decide +kernel
theorem dX9_does_164 : decode cX9_does 164 = .ok (.iconst 0, 1) := by decide +kernel
theorem dX9_does_165 : decode cX9_does 165 = .ok (.invokevirtual 172, 3) := by decide +kernel
theorem dX9_does_168 : decode cX9_does 168 = .ok (.goto 9, 3) := by decide +kernel
theorem dX9_does_171 : decode cX9_does 171 = .ok (.aload_n 0, 1) := by decide +kernel
theorem dX9_does_172 : decode cX9_does 172 = .ok (.iload_n 1, 1) := by decide +kernel
theorem dX9_does_173 : decode cX9_does 173 = .ok (.iload_n 2, 1) := by decide +kernel
theorem dX9_does_174 : decode cX9_does 174 = .ok (.invokevirtual 179, 3) := by decide +kernel
theorem dX9_does_177 : decode cX9_does 177 = .ok (.return_, 1) := by decide +kernel
theorem dX9_isLet_0 : decode cX9_isLet 0 = .ok (.iload_n 1, 1) := by decide +kernel
theorem dX9_isLet_1 : decode cX9_isLet 1 = .ok (.bipush 10, 2) := by decide +kernel
theorem dX9_isLet_3 : decode cX9_isLet 3 = .ok (.idiv, 1) := by decide +kernel
theorem dX9_isLet_4 : decode cX9_isLet 4 = .ok (.iconst 2, 1) := by decide +kernel
theorem dX9_isLet_5 : decode cX9_isLet 5 = .ok (.irem, 1) := by decide +kernel
theorem dX9_isLet_6 : decode cX9_isLet 6 = .ok (.istore_n 2, 1) := by decide +kernel
theorem dX9_isLet_7 : decode cX9_isLet 7 = .ok (.iload_n 1, 1) := by decide +kernel
theorem dX9_isLet_8 : decode cX9_isLet 8 = .ok (.bipush 10, 2) := by decide +kernel
theorem dX9_isLet_10 : decode cX9_isLet 10 = .ok (.irem, 1) := by decide +kernel
theorem dX9_isLet_11 : decode cX9_isLet 11 = .ok (.istore_n 3, 1) := by decide +kernel
theorem dX9_isLet_12 : decode cX9_isLet 12 = .ok (.iload_n 1, 1) := by decide +kernel
theorem dX9_isLet_13 : decode cX9_isLet 13 = .ok (.bipush 19, 2) := by decide +kernel
theorem dX9_isLet_15 : decode cX9_isLet 15 = .ok (.if_icmp .le 39, 3) := by decide +kernel
theorem dX9_isLet_18 : decode cX9_isLet 18 = .ok (.aload_n 0, 1) := by decide +kernel
theorem dX9_isLet_19 : decode cX9_isLet 19 = .ok (.getfield 29, 3) := by decide +kernel
theorem dX9_isLet_22 : decode cX9_isLet 22 = .ok (.bipush 13, 2) := by decide +kernel
theorem dX9_isLet_24 : decode cX9_isLet 24 = .ok (.iaload, 1) := by decide +kernel
theorem dX9_isLet_25 : decode cX9_isLet 25 = .ok (.iconst 2, 1) := by decide +kernel
theorem dX9_isLet_26 : decode cX9_isLet 26 = .ok (.if_icmp .eq 24, 3) := by decide +kernel
theorem dX9_isLet_29 : decode cX9_isLet 29 = .ok (.aload_n 0, 1) := by decide +kernel
theorem dX9_isLet_30 : decode cX9_isLet 30 = .ok (.getfield 29, 3) := by decide +kernel
theorem dX9_isLet_33 : decode cX9_isLet 33 = .ok (.bipush 13, 2) := by decide +kernel
theorem dX9_isLet_35 : decode cX9_isLet 35 = .ok (.iaload, 1) := by decide +kernel
theorem dX9_isLet_36 : decode cX9_isLet 36 = .ok (.iconst 1, 1) := by decide +kernel
theorem dX9_isLet_37 : decode cX9_isLet 37 = .ok (.if_icmp .ne 17, 3) := by decide +kernel
theorem dX9_isLet_40 : decode cX9_isLet 40 = .ok (.iload_n 3, 1) := by decide +kernel
theorem dX9_isLet_41 : decode cX9_isLet 41 = .ok (.iconst 1, 1) := by decide +kernel
theorem dX9_isLet_42 : decode cX9_isLet 42 = .ok (.if_icmp .eq 8, 3) := by decide +kernel
theorem dX9_isLet_45 : decode cX9_isLet 45 = .ok (.iload_n 3, 1) := by decide +kernel
theorem dX9_isLet_46 : decode cX9_isLet 46 = .ok (.iconst 3, 1) := by decide +kernel
theorem dX9_isLet_47 : decode cX9_isLet 47 = .ok (.if_icmp .ne 7, 3) := by decide +kernel
theorem dX9_isLet_50 : decode cX9_isLet 50 = .ok (.iconst 1, 1) := by decide +kernel
theorem dX9_isLet_51 : decode cX9_isLet 51 = .ok (.goto 4, 3) := by decide +kernel
theorem dX9_isLet_54 : decode cX9_isLet 54 = .ok (.iconst 0, 1) := by decide +kernel
theorem dX9_isLet_55 : decode cX9_isLet 55 = .ok (.istore 4, 2) := by decide +kernel
theorem dX9_isLet_57 : decode cX9_isLet 57 = .ok (.iload 4, 2) := by decide +kernel
theorem dX9_isLet_59 : decode cX9_isLet 59 = .ok (.ifCond .ne 28, 3) := by decide +kernel
theorem dX9_isLet_62 : decode cX9_isLet 62 = .ok (.aload_n 0, 1) := by decide +kernel
theorem dX9_isLet_63 : decode cX9_isLet 63 = .ok (.getfield 29, 3) := by decide +kernel
theorem dX9_isLet_66 : decode cX9_isLet 66 = .ok (.iload_n 3, 1) := by decide +kernel
theorem dX9_isLet_67 : decode cX9_isLet 67 = .ok (.iaload, 1) := by decide +kernel
theorem dX9_isLet_68 : decode cX9_isLet 68 = .ok (.iload_n 2, 1) := by decide +kernel
theorem dX9_isLet_69 : decode cX9_isLet 69 = .ok (.aload_n 0, 1) := by decide +kernel
theorem dX9_isLet_70 : decode cX9_isLet 70 = .ok (.getfield 154, 3) := by decide +kernel
theorem dX9_isLet_73 : decode cX9_isLet 73 = .ok (.invokestatic 169, 3) := by decide +kernel
theorem dX9_isLet_76 : decode cX9_isLet 76 = .ok (.ishr, 1) := by decide +kernel
theorem dX9_isLet_77 : decode cX9_isLet 77 = .ok (.iconst 1, 1) := by decide +kernel
theorem dX9_isLet_78 : decode cX9_isLet 78 = .ok (.iand, 1) := by decide +kernel
theorem dX9_isLet_79 : decode cX9_isLet 79 = .ok (.iconst 1, 1) := by decide +kernel
theorem dX9_isLet_80 : decode cX9_isLet 80 = .ok (.if_icmp .ne 7, 3) := by decide +kernel
theorem dX9_isLet_83 : decode cX9_isLet 83 = .ok (.iconst 1, 1) := by decide +kernel
theorem dX9_isLet_84 : decode cX9_isLet 84 = .ok (.goto 4, 3) := by decide +kernel
theorem dX9_isLet_87 : decode cX9_isLet 87 = .ok (.iconst 0, 1) := by decide +kernel
theorem dX9_isLet_88 : decode cX9_isLet 88 = .ok (.ireturn, 1) := by decide +kernel
theorem dX9_goesOn_0 : decode cX9_goesOn 0 = .ok (.iload_n 1, 1) := by decide +kernel
theorem dX9_goesOn_1 : decode cX9_goesOn 1 = .ok (.bipush 10, 2) := by decide +kernel
theorem dX9_goesOn_3 : decode cX9_goesOn 3 = .ok (.idiv, 1) := by decide +kernel
theorem dX9_goesOn_4 : decode cX9_goesOn 4 = .ok (.iconst 2, 1) := by decide +kernel
theorem dX9_goesOn_5 : decode cX9_goesOn 5 = .ok (.irem, 1) := by decide +kernel
theorem dX9_goesOn_6 : decode cX9_goesOn 6 = .ok (.istore_n 3, 1) := by decide +kernel
theorem dX9_goesOn_7 : decode cX9_goesOn 7 = .ok (.aload_n 0, 1) := by decide +kernel
theorem dX9_goesOn_8 : decode cX9_goesOn 8 = .ok (.iload_n 3, 1) := by decide +kernel
theorem dX9_goesOn_9 : decode cX9_goesOn 9 = .ok (.iload_n 1, 1) := by decide +kernel
theorem dX9_goesOn_10 : decode cX9_goesOn 10 = .ok (.bipush 10, 2) := by decide +kernel
theorem dX9_goesOn_12 : decode cX9_goesOn 12 = .ok (.irem, 1) := by decide +kernel
theorem dX9_goesOn_13 : decode cX9_goesOn 13 = .ok (.invokevirtual 183, 3) := by decide +kernel
theorem dX9_goesOn_16 : decode cX9_goesOn 16 = .ok (.ifCond .ne 5, 3) := by decide +kernel
theorem dX9_goesOn_19 : decode cX9_goesOn 19 = .ok (.iconst 0, 1) := by decide +kernel
theorem dX9_goesOn_20 : decode cX9_goesOn 20 = .ok (.ireturn, 1) := by decide +kernel
theorem dX9_goesOn_21 : decode cX9_goesOn 21 = .ok (.iload_n 2, 1) := by decide +kernel
theorem dX9_goesOn_22 : decode cX9_goesOn 22 = .ok (.iconst (-1), 1) := by decide +kernel
theorem dX9_goesOn_23 : decode cX9_goesOn 23 = .ok (.if_icmp .ne 14, 3) := by decide +kernel
theorem dX9_goesOn_26 : decode cX9_goesOn 26 = .ok (.aload_n 0, 1) := by decide +kernel
theorem dX9_goesOn_27 : decode cX9_goesOn 27 = .ok (.iload_n 1, 1) := by decide +kernel
theorem dX9_goesOn_28 : decode cX9_goesOn 28 = .ok (.invokevirtual 187, 3) := by decide +kernel
theorem dX9_goesOn_31 : decode cX9_goesOn 31 = .ok (.ifCond .eq 22, 3) := by decide +kernel
theorem dX9_goesOn_34 : decode cX9_goesOn 34 = .ok (.goto 8, 3) := by decide +kernel
theorem dX9_goesOn_37 : decode cX9_goesOn 37 = .ok (.iload_n 2, 1) := by decide +kernel
theorem dX9_goesOn_38 : decode cX9_goesOn 38 = .ok (.iconst 1, 1) := by decide +kernel
theorem dX9_goesOn_39 : decode cX9_goesOn 39 = .ok (.if_icmp .ne 14, 3) := by decide +kernel
theorem dX9_goesOn_42 : decode cX9_goesOn 42 = .ok (.aload_n 0, 1) := by decide +kernel
theorem dX9_goesOn_43 : decode cX9_goesOn 43 = .ok (.iload_n 3, 1) := by decide +kernel
theorem dX9_goesOn_44 : decode cX9_goesOn 44 = .ok (.iload_n 1, 1) := by decide +kernel
theorem dX9_goesOn_45 : decode cX9_goesOn 45 = .ok (.bipush 10, 2) := by decide +kernel
theorem dX9_goesOn_47 : decode cX9_goesOn 47 = .ok (.irem, 1) := by decide +kernel
theorem dX9_goesOn_48 : decode cX9_goesOn 48 = .ok (.invokevirtual 190, 3) := by decide +kernel
theorem dX9_goesOn_51 : decode cX9_goesOn 51 = .ok (.iconst 1, 1) := by decide +kernel
theorem dX9_goesOn_52 : decode cX9_goesOn 52 = .ok (.ireturn, 1) := by decide +kernel
theorem dX9_goesOn_53 : decode cX9_goesOn 53 = .ok (.aload_n 0, 1) := by decide +kernel
theorem dX9_goesOn_54 : decode cX9_goesOn 54 = .ok (.aload_n 0, 1) := by decide +kernel
theorem dX9_goesOn_55 : decode cX9_goesOn 55 = .ok (.getfield 154, 3) := by decide +kernel
theorem dX9_goesOn_58 : decode cX9_goesOn 58 = .ok (.iconst 1, 1) := by decide +kernel
theorem dX9_goesOn_59 : decode cX9_goesOn 59 = .ok (.iload_n 3, 1) := by decide +kernel
theorem dX9_goesOn_60 : decode cX9_goesOn 60 = .ok (.isub, 1) := by decide +kernel
theorem dX9_goesOn_61 : decode cX9_goesOn 61 = .ok (.iconst 0, 1) := by decide +kernel
theorem dX9_goesOn_62 : decode cX9_goesOn 62 = .ok (.invokevirtual 172, 3) := by decide +kernel
theorem dX9_goesOn_65 : decode cX9_goesOn 65 = .ok (.iconst 2, 1) := by decide +kernel
theorem dX9_goesOn_66 : decode cX9_goesOn 66 = .ok (.ireturn, 1) := by decide +kernel
theorem dX9_isMatch_0 : decode cX9_isMatch 0 = .ok (.iload_n 1, 1) := by decide +kernel
theorem dX9_isMatch_1 : decode cX9_isMatch 1 = .ok (.iconst 0, 1) := by decide +kernel
theorem dX9_isMatch_2 : decode cX9_isMatch 2 = .ok (.aload_n 0, 1) := by decide +kernel
theorem dX9_isMatch_3 : decode cX9_isMatch 3 = .ok (.getfield 193, 3) := by decide +kernel
theorem dX9_isMatch_6 : decode cX9_isMatch 6 = .ok (.iconst 1, 1) := by decide +kernel
theorem dX9_isMatch_7 : decode cX9_isMatch 7 = .ok (.isub, 1) := by decide +kernel
theorem dX9_isMatch_8 : decode cX9_isMatch 8 = .ok (.invokestatic 106, 3) := by decide +kernel
theorem dX9_isMatch_11 : decode cX9_isMatch 11 = .ok (.ireturn, 1) := by decide +kernel
theorem dX9_match_0 : decode cX9_match 0 = .ok (.iload_n 1, 1) := by decide +kernel
theorem dX9_match_1 : decode cX9_match 1 = .ok (.invokestatic 196, 3) := by decide +kernel
theorem dX9_match_4 : decode cX9_match 4 = .ok (.ifCond .eq 13, 3) := by decide +kernel
theorem dX9_match_7 : decode cX9_match 7 = .ok (.iload_n 2, 1) := by decide +kernel
theorem dX9_match_8 : decode cX9_match 8 = .ok (.iconst 0, 1) := by decide +kernel
theorem dX9_match_9 : decode cX9_match 9 = .ok (.bipush 40, 2) := by decide +kernel
theorem dX9_match_11 : decode cX9_match 11 = .ok (.invokestatic 106, 3) := by decide +kernel
theorem dX9_match_14 : decode cX9_match 14 = .ok (.ifCond .ne 6, 3) := by decide +kernel
theorem dX9_match_17 : decode cX9_match 17 = .ok (.bipush (-2), 2) := by decide +kernel
theorem dX9_match_19 : decode cX9_match 19 = .ok (.ireturn, 1) := by decide +kernel
theorem dX9_match_20 : decode cX9_match 20 = .ok (.aload_n 0, 1) := by decide +kernel
theorem dX9_match_21 : decode cX9_match 21 = .ok (.getfield 87, 3) := by decide +kernel
theorem dX9_match_24 : decode cX9_match 24 = .ok (.iload_n 1, 1) := by decide +kernel
theorem dX9_match_25 : decode cX9_match 25 = .ok (.baload, 1) := by decide +kernel
theorem dX9_match_26 : decode cX9_match 26 = .ok (.ifCond .ne 9, 3) := by decide +kernel
theorem dX9_match_29 : decode cX9_match 29 = .ok (.aload_n 0, 1) := by decide +kernel
theorem dX9_match_30 : decode cX9_match 30 = .ok (.iconst 1, 1) := by decide +kernel
theorem dX9_match_31 : decode cX9_match 31 = .ok (.invokevirtual 199, 3) := by decide +kernel
theorem dX9_match_34 : decode cX9_match 34 = .ok (.ireturn, 1) := by decide +kernel
theorem dX9_match_35 : decode cX9_match 35 = .ok (.aload_n 0, 1) := by decide +kernel
theorem dX9_match_36 : decode cX9_match 36 = .ok (.getfield 93, 3) := by decide +kernel
theorem dX9_match_39 : decode cX9_match 39 = .ok (.iload_n 1, 1) := by decide +kernel
theorem dX9_match_40 : decode cX9_match 40 = .ok (.iaload, 1) := by decide +kernel
theorem dX9_match_41 : decode cX9_match 41 = .ok (.iload_n 2, 1) := by decide +kernel
theorem dX9_match_42 : decode cX9_match 42 = .ok (.if_icmp .ge 9, 3) := by decide +kernel
theorem dX9_match_45 : decode cX9_match 45 = .ok (.aload_n 0, 1) := by decide +kernel
theorem dX9_match_46 : decode cX9_match 46 = .ok (.iconst 2, 1) := by decide +kernel
theorem dX9_match_47 : decode cX9_match 47 = .ok (.invokevirtual 199, 3) := by decide +kernel
theorem dX9_match_50 : decode cX9_match 50 = .ok (.ireturn, 1) := by decide +kernel
theorem dX9_match_51 : decode cX9_match 51 = .ok (.aload_n 0, 1) := by decide +kernel
theorem dX9_match_52 : decode cX9_match 52 = .ok (.getfield 193, 3) := by decide +kernel
theorem dX9_match_55 : decode cX9_match 55 = .ok (.bipush 12, 2) := by decide +kernel
theorem dX9_match_57 : decode cX9_match 57 = .ok (.if_icmp .ne 6, 3) := by decide +kernel
theorem dX9_match_60 : decode cX9_match 60 = .ok (.bipush (-4), 2) := by decide +kernel
theorem dX9_match_62 : decode cX9_match 62 = .ok (.ireturn, 1) := by decide +kernel
theorem dX9_match_63 : decode cX9_match 63 = .ok (.iconst 0, 1) := by decide +kernel
theorem dX9_match_64 : decode cX9_match 64 = .ok (.istore_n 3, 1) := by decide +kernel
theorem dX9_match_65 : decode cX9_match 65 = .ok (.iload_n 3, 1) := by decide +kernel
theorem dX9_match_66 : decode cX9_match 66 = .ok (.iload_n 2, 1) := by decide +kernel
theorem dX9_match_67 : decode cX9_match 67 = .ok (.if_icmp .ge 68, 3) := by decide +kernel
theorem dX9_match_70 : decode cX9_match 70 = .ok (.aload_n 0, 1) := by decide +kernel
theorem dX9_match_71 : decode cX9_match 71 = .ok (.getfield 96, 3) := by decide +kernel
theorem dX9_match_74 : decode cX9_match 74 = .ok (.bipush 60, 2) := by decide +kernel
theorem dX9_match_76 : decode cX9_match 76 = .ok (.iload_n 1, 1) := by decide +kernel
theorem dX9_match_77 : decode cX9_match 77 = .ok (.imul, 1) := by decide +kernel
theorem dX9_match_78 : decode cX9_match 78 = .ok (.iload_n 3, 1) := by decide +kernel
theorem dX9_match_79 : decode cX9_match 79 = .ok (.iadd, 1) := by decide +kernel
theorem dX9_match_80 : decode cX9_match 80 = .ok (.iaload, 1) := by decide +kernel
theorem dX9_match_81 : decode cX9_match 81 = .ok (.istore 4, 2) := by decide +kernel
theorem dX9_match_83 : decode cX9_match 83 = .ok (.aload_n 0, 1) := by decide +kernel
theorem dX9_match_84 : decode cX9_match 84 = .ok (.getfield 35, 3) := by decide +kernel
theorem dX9_match_87 : decode cX9_match 87 = .ok (.bipush 40, 2) := by decide +kernel
theorem dX9_match_89 : decode cX9_match 89 = .ok (.aload_n 0, 1) := by decide +kernel
theorem dX9_match_90 : decode cX9_match 90 = .ok (.getfield 193, 3) := by decide +kernel
theorem dX9_match_93 : decode cX9_match 93 = .ok (.imul, 1) := by decide +kernel
theorem dX9_match_94 : decode cX9_match 94 = .ok (.iload_n 3, 1) := by decide +kernel
theorem dX9_match_95 : decode cX9_match 95 = .ok (.iadd, 1) := by decide +kernel
theorem dX9_match_96 : decode cX9_match 96 = .ok (.iload 4, 2) := by decide +kernel
theorem dX9_match_98 : decode cX9_match 98 = .ok (.iconst 0, 1) := by decide +kernel
theorem dX9_match_99 : decode cX9_match 99 = .ok (.bipush 39, 2) := by decide +kernel
theorem dX9_match_101 : decode cX9_match 101 = .ok (.invokestatic 106, 3) := by decide +kernel
theorem dX9_match_104 : decode cX9_match 104 = .ok (.ifCond .eq 8, 3) := by decide +kernel
theorem dX9_match_107 : decode cX9_match 107 = .ok (.iload 4, 2) := by decide +kernel
theorem dX9_match_109 : decode cX9_match 109 = .ok (.goto 4, 3) := by decide +kernel
theorem dX9_match_112 : decode cX9_match 112 = .ok (.iconst (-1), 1) := by decide +kernel
theorem dX9_match_113 : decode cX9_match 113 = .ok (.iastore, 1) := by decide +kernel
theorem dX9_match_114 : decode cX9_match 114 = .ok (.aload_n 0, 1) := by decide +kernel
theorem dX9_match_115 : decode cX9_match 115 = .ok (.getfield 38, 3) := by decide +kernel
theorem dX9_match_118 : decode cX9_match 118 = .ok (.bipush 40, 2) := by decide +kernel
theorem dX9_match_120 : decode cX9_match 120 = .ok (.aload_n 0, 1) := by decide +kernel
theorem dX9_match_121 : decode cX9_match 121 = .ok (.getfield 193, 3) := by decide +kernel
theorem dX9_match_124 : decode cX9_match 124 = .ok (.imul, 1) := by decide +kernel
theorem dX9_match_125 : decode cX9_match 125 = .ok (.iload_n 3, 1) := by decide +kernel
theorem dX9_match_126 : decode cX9_match 126 = .ok (.iadd, 1) := by decide +kernel
theorem dX9_match_127 : decode cX9_match 127 = .ok (.iconst (-1), 1) := by decide +kernel
theorem dX9_match_128 : decode cX9_match 128 = .ok (.iastore, 1) := by decide +kernel
theorem dX9_match_129 : decode cX9_match 129 = .ok (.iinc 3 1, 3) := by decide +kernel
theorem dX9_match_132 : decode cX9_match 132 = .ok (.goto (-67), 3) := by decide +kernel
theorem dX9_match_135 : decode cX9_match 135 = .ok (.aload_n 0, 1) := by decide +kernel
theorem dX9_match_136 : decode cX9_match 136 = .ok (.getfield 32, 3) := by decide +kernel
theorem dX9_match_139 : decode cX9_match 139 = .ok (.aload_n 0, 1) := by decide +kernel
theorem dX9_match_140 : decode cX9_match 140 = .ok (.getfield 193, 3) := by decide +kernel
theorem dX9_match_143 : decode cX9_match 143 = .ok (.iload_n 2, 1) := by decide +kernel
theorem dX9_match_144 : decode cX9_match 144 = .ok (.iastore, 1) := by decide +kernel
theorem dX9_match_145 : decode cX9_match 145 = .ok (.aload_n 0, 1) := by decide +kernel
theorem dX9_match_146 : decode cX9_match 146 = .ok (.getfield 41, 3) := by decide +kernel
theorem dX9_match_149 : decode cX9_match 149 = .ok (.aload_n 0, 1) := by decide +kernel
theorem dX9_match_150 : decode cX9_match 150 = .ok (.getfield 193, 3) := by decide +kernel
theorem dX9_match_153 : decode cX9_match 153 = .ok (.iconst 0, 1) := by decide +kernel
theorem dX9_match_154 : decode cX9_match 154 = .ok (.bastore, 1) := by decide +kernel
theorem dX9_match_155 : decode cX9_match 155 = .ok (.aload_n 0, 1) := by decide +kernel
theorem dX9_match_156 : decode cX9_match 156 = .ok (.dup, 1) := by decide +kernel
theorem dX9_match_157 : decode cX9_match 157 = .ok (.getfield 193, 3) := by decide +kernel
theorem dX9_match_160 : decode cX9_match 160 = .ok (.iconst 1, 1) := by decide +kernel
theorem dX9_match_161 : decode cX9_match 161 = .ok (.iadd, 1) := by decide +kernel
theorem dX9_match_162 : decode cX9_match 162 = .ok (.putfield 193, 3) := by decide +kernel
theorem dX9_match_165 : decode cX9_match 165 = .ok (.aload_n 0, 1) := by decide +kernel
theorem dX9_match_166 : decode cX9_match 166 = .ok (.getfield 193, 3) := by decide +kernel
theorem dX9_match_169 : decode cX9_match 169 = .ok (.iconst 1, 1) := by decide +kernel
theorem dX9_match_170 : decode cX9_match 170 = .ok (.isub, 1) := by decide +kernel
theorem dX9_match_171 : decode cX9_match 171 = .ok (.ireturn, 1) := by decide +kernel
theorem dX9_verdicts_0 : decode cX9_verdicts 0 = .ok (.aload_n 0, 1) := by decide +kernel
theorem dX9_verdicts_1 : decode cX9_verdicts 1 = .ok (.iload_n 1, 1) := by decide +kernel
theorem dX9_verdicts_2 : decode cX9_verdicts 2 = .ok (.invokevirtual 202, 3) := by decide +kernel
theorem dX9_verdicts_5 : decode cX9_verdicts 5 = .ok (.ifCond .eq 10, 3) := by decide +kernel
theorem dX9_verdicts_8 : decode cX9_verdicts 8 = .ok (.iload_n 2, 1) := by decide +kernel
theorem dX9_verdicts_9 : decode cX9_verdicts 9 = .ok (.invokestatic 196, 3) := by decide +kernel
theorem dX9_verdicts_12 : decode cX9_verdicts 12 = .ok (.ifCond .ne 6, 3) := by decide +kernel
theorem dX9_verdicts_15 : decode cX9_verdicts 15 = .ok (.bipush (-2), 2) := by decide +kernel
theorem dX9_verdicts_17 : decode cX9_verdicts 17 = .ok (.ireturn, 1) := by decide +kernel
theorem dX9_verdicts_18 : decode cX9_verdicts 18 = .ok (.aload_n 0, 1) := by decide +kernel
theorem dX9_verdicts_19 : decode cX9_verdicts 19 = .ok (.getfield 87, 3) := by decide +kernel
theorem dX9_verdicts_22 : decode cX9_verdicts 22 = .ok (.iload_n 2, 1) := by decide +kernel
theorem dX9_verdicts_23 : decode cX9_verdicts 23 = .ok (.baload, 1) := by decide +kernel
theorem dX9_verdicts_24 : decode cX9_verdicts 24 = .ok (.ifCond .ne 9, 3) := by decide +kernel
theorem dX9_verdicts_27 : decode cX9_verdicts 27 = .ok (.aload_n 0, 1) := by decide +kernel
theorem dX9_verdicts_28 : decode cX9_verdicts 28 = .ok (.iconst 1, 1) := by decide +kernel
theorem dX9_verdicts_29 : decode cX9_verdicts 29 = .ok (.invokevirtual 199, 3) := by decide +kernel
theorem dX9_verdicts_32 : decode cX9_verdicts 32 = .ok (.ireturn, 1) := by decide +kernel
theorem dX9_verdicts_33 : decode cX9_verdicts 33 = .ok (.iconst 0, 1) := by decide +kernel
theorem dX9_verdicts_34 : decode cX9_verdicts 34 = .ok (.istore_n 3, 1) := by decide +kernel
theorem dX9_verdicts_35 : decode cX9_verdicts 35 = .ok (.iload_n 3, 1) := by decide +kernel
theorem dX9_verdicts_36 : decode cX9_verdicts 36 = .ok (.aload_n 0, 1) := by decide +kernel
theorem dX9_verdicts_37 : decode cX9_verdicts 37 = .ok (.getfield 32, 3) := by decide +kernel
theorem dX9_verdicts_40 : decode cX9_verdicts 40 = .ok (.iload_n 1, 1) := by decide +kernel
theorem dX9_verdicts_41 : decode cX9_verdicts 41 = .ok (.iaload, 1) := by decide +kernel
theorem dX9_verdicts_42 : decode cX9_verdicts 42 = .ok (.if_icmp .ge 64, 3) := by decide +kernel
theorem dX9_verdicts_45 : decode cX9_verdicts 45 = .ok (.iload_n 3, 1) := by decide +kernel
theorem dX9_verdicts_46 : decode cX9_verdicts 46 = .ok (.aload_n 0, 1) := by decide +kernel
theorem dX9_verdicts_47 : decode cX9_verdicts 47 = .ok (.getfield 93, 3) := by decide +kernel
theorem dX9_verdicts_50 : decode cX9_verdicts 50 = .ok (.iload_n 2, 1) := by decide +kernel
theorem dX9_verdicts_51 : decode cX9_verdicts 51 = .ok (.iaload, 1) := by decide +kernel
theorem dX9_verdicts_52 : decode cX9_verdicts 52 = .ok (.if_icmp .ge 17, 3) := by decide +kernel
theorem dX9_verdicts_55 : decode cX9_verdicts 55 = .ok (.aload_n 0, 1) := by decide +kernel
theorem dX9_verdicts_56 : decode cX9_verdicts 56 = .ok (.getfield 96, 3) := by decide +kernel
theorem dX9_verdicts_59 : decode cX9_verdicts 59 = .ok (.bipush 60, 2) := by decide +kernel
theorem dX9_verdicts_61 : decode cX9_verdicts 61 = .ok (.iload_n 2, 1) := by decide +kernel
theorem dX9_verdicts_62 : decode cX9_verdicts 62 = .ok (.imul, 1) := by decide +kernel
theorem dX9_verdicts_63 : decode cX9_verdicts 63 = .ok (.iload_n 3, 1) := by decide +kernel
theorem dX9_verdicts_64 : decode cX9_verdicts 64 = .ok (.iadd, 1) := by decide +kernel
theorem dX9_verdicts_65 : decode cX9_verdicts 65 = .ok (.iaload, 1) := by decide +kernel
theorem dX9_verdicts_66 : decode cX9_verdicts 66 = .ok (.goto 4, 3) := by decide +kernel
theorem dX9_verdicts_69 : decode cX9_verdicts 69 = .ok (.iconst (-1), 1) := by decide +kernel
theorem dX9_verdicts_70 : decode cX9_verdicts 70 = .ok (.istore 4, 2) := by decide +kernel
theorem dX9_verdicts_72 : decode cX9_verdicts 72 = .ok (.aload_n 0, 1) := by decide +kernel
theorem dX9_verdicts_73 : decode cX9_verdicts 73 = .ok (.getfield 38, 3) := by decide +kernel
theorem dX9_verdicts_76 : decode cX9_verdicts 76 = .ok (.bipush 40, 2) := by decide +kernel
theorem dX9_verdicts_78 : decode cX9_verdicts 78 = .ok (.iload_n 1, 1) := by decide +kernel
theorem dX9_verdicts_79 : decode cX9_verdicts 79 = .ok (.imul, 1) := by decide +kernel
theorem dX9_verdicts_80 : decode cX9_verdicts 80 = .ok (.iload_n 3, 1) := by decide +kernel
theorem dX9_verdicts_81 : decode cX9_verdicts 81 = .ok (.iadd, 1) := by decide +kernel
theorem dX9_verdicts_82 : decode cX9_verdicts 82 = .ok (.iload 4, 2) := by decide +kernel
theorem dX9_verdicts_84 : decode cX9_verdicts 84 = .ok (.ifCond .eq 9, 3) := by decide +kernel
theorem dX9_verdicts_87 : decode cX9_verdicts 87 = .ok (.iload 4, 2) := by decide +kernel
theorem dX9_verdicts_89 : decode cX9_verdicts 89 = .ok (.iconst 1, 1) := by decide +kernel
theorem dX9_verdicts_90 : decode cX9_verdicts 90 = .ok (.if_icmp .ne 8, 3) := by decide +kernel
theorem dX9_verdicts_93 : decode cX9_verdicts 93 = .ok (.iload 4, 2) := by decide +kernel
theorem dX9_verdicts_95 : decode cX9_verdicts 95 = .ok (.goto 4, 3) := by decide +kernel
theorem dX9_verdicts_98 : decode cX9_verdicts 98 = .ok (.iconst (-1), 1) := by decide +kernel
theorem dX9_verdicts_99 : decode cX9_verdicts 99 = .ok (.iastore, 1) := by decide +kernel
theorem dX9_verdicts_100 : decode cX9_verdicts 100 = .ok (.iinc 3 1, 3) := by decide +kernel
theorem dX9_verdicts_103 : decode cX9_verdicts 103 = .ok (.goto (-68), 3) := by decide +kernel
theorem dX9_verdicts_106 : decode cX9_verdicts 106 = .ok (.aload_n 0, 1) := by decide +kernel
theorem dX9_verdicts_107 : decode cX9_verdicts 107 = .ok (.getfield 41, 3) := by decide +kernel
theorem dX9_verdicts_110 : decode cX9_verdicts 110 = .ok (.iload_n 1, 1) := by decide +kernel
theorem dX9_verdicts_111 : decode cX9_verdicts 111 = .ok (.iconst 1, 1) := by decide +kernel
theorem dX9_verdicts_112 : decode cX9_verdicts 112 = .ok (.bastore, 1) := by decide +kernel
theorem dX9_verdicts_113 : decode cX9_verdicts 113 = .ok (.iconst 1, 1) := by decide +kernel
theorem dX9_verdicts_114 : decode cX9_verdicts 114 = .ok (.ireturn, 1) := by decide +kernel
theorem dX9_clears_0 : decode cX9_clears 0 = .ok (.aload_n 0, 1) := by decide +kernel
theorem dX9_clears_1 : decode cX9_clears 1 = .ok (.invokevirtual 205, 3) := by decide +kernel
theorem dX9_clears_4 : decode cX9_clears 4 = .ok (.aload_n 0, 1) := by decide +kernel
theorem dX9_clears_5 : decode cX9_clears 5 = .ok (.iconst 0, 1) := by decide +kernel
theorem dX9_clears_6 : decode cX9_clears 6 = .ok (.putfield 208, 3) := by decide +kernel
theorem dX9_clears_9 : decode cX9_clears 9 = .ok (.aload_n 0, 1) := by decide +kernel
theorem dX9_clears_10 : decode cX9_clears 10 = .ok (.iconst 0, 1) := by decide +kernel
theorem dX9_clears_11 : decode cX9_clears 11 = .ok (.putfield 211, 3) := by decide +kernel
theorem dX9_clears_14 : decode cX9_clears 14 = .ok (.aload_n 0, 1) := by decide +kernel
theorem dX9_clears_15 : decode cX9_clears 15 = .ok (.iconst 0, 1) := by decide +kernel
theorem dX9_clears_16 : decode cX9_clears 16 = .ok (.putfield 214, 3) := by decide +kernel
theorem dX9_clears_19 : decode cX9_clears 19 = .ok (.aload_n 0, 1) := by decide +kernel
theorem dX9_clears_20 : decode cX9_clears 20 = .ok (.iconst 0, 1) := by decide +kernel
theorem dX9_clears_21 : decode cX9_clears 21 = .ok (.putfield 217, 3) := by decide +kernel
theorem dX9_clears_24 : decode cX9_clears 24 = .ok (.return_, 1) := by decide +kernel
theorem dX9_steps_0 : decode cX9_steps 0 = .ok (.aload_n 0, 1) := by decide +kernel
theorem dX9_steps_1 : decode cX9_steps 1 = .ok (.getfield 35, 3) := by decide +kernel
theorem dX9_steps_4 : decode cX9_steps 4 = .ok (.bipush 40, 2) := by decide +kernel
theorem dX9_steps_6 : decode cX9_steps 6 = .ok (.iload_n 1, 1) := by decide +kernel
theorem dX9_steps_7 : decode cX9_steps 7 = .ok (.imul, 1) := by decide +kernel
theorem dX9_steps_8 : decode cX9_steps 8 = .ok (.aload_n 0, 1) := by decide +kernel
theorem dX9_steps_9 : decode cX9_steps 9 = .ok (.getfield 217, 3) := by decide +kernel
theorem dX9_steps_12 : decode cX9_steps 12 = .ok (.iadd, 1) := by decide +kernel
theorem dX9_steps_13 : decode cX9_steps 13 = .ok (.iaload, 1) := by decide +kernel
theorem dX9_steps_14 : decode cX9_steps 14 = .ok (.istore_n 2, 1) := by decide +kernel
theorem dX9_steps_15 : decode cX9_steps 15 = .ok (.aload_n 0, 1) := by decide +kernel
theorem dX9_steps_16 : decode cX9_steps 16 = .ok (.dup, 1) := by decide +kernel
theorem dX9_steps_17 : decode cX9_steps 17 = .ok (.getfield 217, 3) := by decide +kernel
theorem dX9_steps_20 : decode cX9_steps 20 = .ok (.iconst 1, 1) := by decide +kernel
theorem dX9_steps_21 : decode cX9_steps 21 = .ok (.iadd, 1) := by decide +kernel
theorem dX9_steps_22 : decode cX9_steps 22 = .ok (.putfield 217, 3) := by decide +kernel
theorem dX9_steps_25 : decode cX9_steps 25 = .ok (.iload_n 2, 1) := by decide +kernel
theorem dX9_steps_26 : decode cX9_steps 26 = .ok (.iconst (-1), 1) := by decide +kernel
theorem dX9_steps_27 : decode cX9_steps 27 = .ok (.if_icmp .ne 5, 3) := by decide +kernel
theorem dX9_steps_30 : decode cX9_steps 30 = .ok (.iconst 3, 1) := by decide +kernel
theorem dX9_steps_31 : decode cX9_steps 31 = .ok (.ireturn, 1) := by decide +kernel
theorem dX9_steps_32 : decode cX9_steps 32 = .ok (.aload_n 0, 1) := by decide +kernel
theorem dX9_steps_33 : decode cX9_steps 33 = .ok (.iload_n 2, 1) := by decide +kernel
theorem dX9_steps_34 : decode cX9_steps 34 = .ok (.iconst (-1), 1) := by decide +kernel
theorem dX9_steps_35 : decode cX9_steps 35 = .ok (.invokevirtual 220, 3) := by decide +kernel
theorem dX9_steps_38 : decode cX9_steps 38 = .ok (.istore_n 3, 1) := by decide +kernel
theorem dX9_steps_39 : decode cX9_steps 39 = .ok (.aload_n 0, 1) := by decide +kernel
theorem dX9_steps_40 : decode cX9_steps 40 = .ok (.dup, 1) := by decide +kernel
theorem dX9_steps_41 : decode cX9_steps 41 = .ok (.getfield 208, 3) := by decide +kernel
theorem dX9_steps_44 : decode cX9_steps 44 = .ok (.iload_n 3, 1) := by decide +kernel
theorem dX9_steps_45 : decode cX9_steps 45 = .ok (.iconst 1, 1) := by decide +kernel
theorem dX9_steps_46 : decode cX9_steps 46 = .ok (.if_icmp .ne 7, 3) := by decide +kernel
theorem dX9_steps_49 : decode cX9_steps 49 = .ok (.iconst 1, 1) := by decide +kernel
theorem dX9_steps_50 : decode cX9_steps 50 = .ok (.goto 4, 3) := by decide +kernel
theorem dX9_steps_53 : decode cX9_steps 53 = .ok (.iconst 0, 1) := by decide +kernel
theorem dX9_steps_54 : decode cX9_steps 54 = .ok (.iadd, 1) := by decide +kernel
theorem dX9_steps_55 : decode cX9_steps 55 = .ok (.putfield 208, 3) := by decide +kernel
theorem dX9_steps_58 : decode cX9_steps 58 = .ok (.aload_n 0, 1) := by decide +kernel
theorem dX9_steps_59 : decode cX9_steps 59 = .ok (.dup, 1) := by decide +kernel
theorem dX9_steps_60 : decode cX9_steps 60 = .ok (.getfield 211, 3) := by decide +kernel
theorem dX9_steps_63 : decode cX9_steps 63 = .ok (.iload_n 3, 1) := by decide +kernel
theorem dX9_steps_64 : decode cX9_steps 64 = .ok (.iconst 2, 1) := by decide +kernel
theorem dX9_steps_65 : decode cX9_steps 65 = .ok (.if_icmp .ne 7, 3) := by decide +kernel
theorem dX9_steps_68 : decode cX9_steps 68 = .ok (.iconst 1, 1) := by decide +kernel
theorem dX9_steps_69 : decode cX9_steps 69 = .ok (.goto 4, 3) := by decide +kernel
theorem dX9_steps_72 : decode cX9_steps 72 = .ok (.iconst 0, 1) := by decide +kernel
theorem dX9_steps_73 : decode cX9_steps 73 = .ok (.iadd, 1) := by decide +kernel
theorem dX9_steps_74 : decode cX9_steps 74 = .ok (.putfield 211, 3) := by decide +kernel
theorem dX9_steps_77 : decode cX9_steps 77 = .ok (.aload_n 0, 1) := by decide +kernel
theorem dX9_steps_78 : decode cX9_steps 78 = .ok (.dup, 1) := by decide +kernel
theorem dX9_steps_79 : decode cX9_steps 79 = .ok (.getfield 214, 3) := by decide +kernel
theorem dX9_steps_82 : decode cX9_steps 82 = .ok (.iload_n 3, 1) := by decide +kernel
theorem dX9_steps_83 : decode cX9_steps 83 = .ok (.iconst 1, 1) := by decide +kernel
theorem dX9_steps_84 : decode cX9_steps 84 = .ok (.if_icmp .ne 16, 3) := by decide +kernel
theorem dX9_steps_87 : decode cX9_steps 87 = .ok (.iload_n 2, 1) := by decide +kernel
theorem dX9_steps_88 : decode cX9_steps 88 = .ok (.bipush 10, 2) := by decide +kernel
theorem dX9_steps_90 : decode cX9_steps 90 = .ok (.irem, 1) := by decide +kernel
theorem dX9_steps_91 : decode cX9_steps 91 = .ok (.bipush 7, 2) := by decide +kernel
theorem dX9_steps_93 : decode cX9_steps 93 = .ok (.if_icmp .ne 7, 3) := by decide +kernel
theorem dX9_steps_96 : decode cX9_steps 96 = .ok (.iconst 1, 1) := by decide +kernel
theorem dX9_steps_97 : decode cX9_steps 97 = .ok (.goto 4, 3) := by decide +kernel
theorem dX9_steps_100 : decode cX9_steps 100 = .ok (.iconst 0, 1) := by decide +kernel
theorem dX9_steps_101 : decode cX9_steps 101 = .ok (.iadd, 1) := by decide +kernel
theorem dX9_steps_102 : decode cX9_steps 102 = .ok (.putfield 214, 3) := by decide +kernel
theorem dX9_steps_105 : decode cX9_steps 105 = .ok (.iload_n 3, 1) := by decide +kernel
theorem dX9_steps_106 : decode cX9_steps 106 = .ok (.ireturn, 1) := by decide +kernel
theorem dX9_isOver_0 : decode cX9_isOver 0 = .ok (.aload_n 0, 1) := by decide +kernel
theorem dX9_isOver_1 : decode cX9_isOver 1 = .ok (.getfield 29, 3) := by decide +kernel
theorem dX9_isOver_4 : decode cX9_isOver 4 = .ok (.bipush 15, 2) := by decide +kernel
theorem dX9_isOver_6 : decode cX9_isOver 6 = .ok (.iaload, 1) := by decide +kernel
theorem dX9_isOver_7 : decode cX9_isOver 7 = .ok (.ifCond .le 35, 3) := by decide +kernel
theorem dX9_isOver_10 : decode cX9_isOver 10 = .ok (.aload_n 0, 1) := by decide +kernel
theorem dX9_isOver_11 : decode cX9_isOver 11 = .ok (.getfield 163, 3) := by decide +kernel
theorem dX9_isOver_14 : decode cX9_isOver 14 = .ok (.aload_n 0, 1) := by decide +kernel
theorem dX9_isOver_15 : decode cX9_isOver 15 = .ok (.getfield 29, 3) := by decide +kernel
theorem dX9_isOver_18 : decode cX9_isOver 18 = .ok (.bipush 15, 2) := by decide +kernel
theorem dX9_isOver_20 : decode cX9_isOver 20 = .ok (.iaload, 1) := by decide +kernel
theorem dX9_isOver_21 : decode cX9_isOver 21 = .ok (.if_icmp .ge 17, 3) := by decide +kernel
theorem dX9_isOver_24 : decode cX9_isOver 24 = .ok (.aload_n 0, 1) := by decide +kernel
theorem dX9_isOver_25 : decode cX9_isOver 25 = .ok (.getfield 166, 3) := by decide +kernel
theorem dX9_isOver_28 : decode cX9_isOver 28 = .ok (.aload_n 0, 1) := by decide +kernel
theorem dX9_isOver_29 : decode cX9_isOver 29 = .ok (.getfield 29, 3) := by decide +kernel
theorem dX9_isOver_32 : decode cX9_isOver 32 = .ok (.bipush 15, 2) := by decide +kernel
theorem dX9_isOver_34 : decode cX9_isOver 34 = .ok (.iaload, 1) := by decide +kernel
theorem dX9_isOver_35 : decode cX9_isOver 35 = .ok (.if_icmp .lt 7, 3) := by decide +kernel
theorem dX9_isOver_38 : decode cX9_isOver 38 = .ok (.iconst 1, 1) := by decide +kernel
theorem dX9_isOver_39 : decode cX9_isOver 39 = .ok (.goto 4, 3) := by decide +kernel
theorem dX9_isOver_42 : decode cX9_isOver 42 = .ok (.iconst 0, 1) := by decide +kernel
theorem dX9_isOver_43 : decode cX9_isOver 43 = .ok (.istore_n 2, 1) := by decide +kernel
theorem dX9_isOver_44 : decode cX9_isOver 44 = .ok (.aload_n 0, 1) := by decide +kernel
theorem dX9_isOver_45 : decode cX9_isOver 45 = .ok (.getfield 217, 3) := by decide +kernel
theorem dX9_isOver_48 : decode cX9_isOver 48 = .ok (.aload_n 0, 1) := by decide +kernel
theorem dX9_isOver_49 : decode cX9_isOver 49 = .ok (.getfield 32, 3) := by decide +kernel
theorem dX9_isOver_52 : decode cX9_isOver 52 = .ok (.iload_n 1, 1) := by decide +kernel
theorem dX9_isOver_53 : decode cX9_isOver 53 = .ok (.iaload, 1) := by decide +kernel
theorem dX9_isOver_54 : decode cX9_isOver 54 = .ok (.if_icmp .eq 21, 3) := by decide +kernel
theorem dX9_isOver_57 : decode cX9_isOver 57 = .ok (.aload_n 0, 1) := by decide +kernel
theorem dX9_isOver_58 : decode cX9_isOver 58 = .ok (.getfield 217, 3) := by decide +kernel
theorem dX9_isOver_61 : decode cX9_isOver 61 = .ok (.aload_n 0, 1) := by decide +kernel
theorem dX9_isOver_62 : decode cX9_isOver 62 = .ok (.getfield 29, 3) := by decide +kernel
theorem dX9_isOver_65 : decode cX9_isOver 65 = .ok (.bipush 16, 2) := by decide +kernel
theorem dX9_isOver_67 : decode cX9_isOver 67 = .ok (.iaload, 1) := by decide +kernel
theorem dX9_isOver_68 : decode cX9_isOver 68 = .ok (.if_icmp .ge 7, 3) := by decide +kernel
theorem dX9_isOver_71 : decode cX9_isOver 71 = .ok (.iload_n 2, 1) := by decide +kernel
theorem dX9_isOver_72 : decode cX9_isOver 72 = .ok (.ifCond .eq 7, 3) := by decide +kernel
theorem dX9_isOver_75 : decode cX9_isOver 75 = .ok (.iconst 1, 1) := by decide +kernel
theorem dX9_isOver_76 : decode cX9_isOver 76 = .ok (.goto 4, 3) := by decide +kernel
theorem dX9_isOver_79 : decode cX9_isOver 79 = .ok (.iconst 0, 1) := by decide +kernel
theorem dX9_isOver_80 : decode cX9_isOver 80 = .ok (.ireturn, 1) := by decide +kernel
theorem dX9_plays_0 : decode cX9_plays 0 = .ok (.aload_n 0, 1) := by decide +kernel
theorem dX9_plays_1 : decode cX9_plays 1 = .ok (.invokevirtual 223, 3) := by decide +kernel
theorem dX9_plays_4 : decode cX9_plays 4 = .ok (.aload_n 0, 1) := by decide +kernel
theorem dX9_plays_5 : decode cX9_plays 5 = .ok (.iload_n 1, 1) := by decide +kernel
theorem dX9_plays_6 : decode cX9_plays 6 = .ok (.invokevirtual 226, 3) := by decide +kernel
theorem dX9_plays_9 : decode cX9_plays 9 = .ok (.ifCond .ne 12, 3) := by decide +kernel
theorem dX9_plays_12 : decode cX9_plays 12 = .ok (.aload_n 0, 1) := by decide +kernel
theorem dX9_plays_13 : decode cX9_plays 13 = .ok (.iload_n 1, 1) := by decide +kernel
theorem dX9_plays_14 : decode cX9_plays 14 = .ok (.invokevirtual 229, 3) := by decide +kernel
theorem dX9_plays_17 : decode cX9_plays 17 = .ok (.istore_n 2, 1) := by decide +kernel
theorem dX9_plays_18 : decode cX9_plays 18 = .ok (.goto (-14), 3) := by decide +kernel
theorem dX9_plays_21 : decode cX9_plays 21 = .ok (.return_, 1) := by decide +kernel
theorem dX9_toldOf_0 : decode cX9_toldOf 0 = .ok (.iload_n 1, 1) := by decide +kernel
theorem dX9_toldOf_1 : decode cX9_toldOf 1 = .ok (.tableswitch 114 0 7 #[47, 52, 57, 62, 67, 72, 77, 109], 47) := by decide +kernel
theorem dX9_toldOf_48 : decode cX9_toldOf 48 = .ok (.aload_n 0, 1) := by decide +kernel
theorem dX9_toldOf_49 : decode cX9_toldOf 49 = .ok (.getfield 163, 3) := by decide +kernel
theorem dX9_toldOf_52 : decode cX9_toldOf 52 = .ok (.ireturn, 1) := by decide +kernel
theorem dX9_toldOf_53 : decode cX9_toldOf 53 = .ok (.aload_n 0, 1) := by decide +kernel
theorem dX9_toldOf_54 : decode cX9_toldOf 54 = .ok (.getfield 166, 3) := by decide +kernel
theorem dX9_toldOf_57 : decode cX9_toldOf 57 = .ok (.ireturn, 1) := by decide +kernel
theorem dX9_toldOf_58 : decode cX9_toldOf 58 = .ok (.aload_n 0, 1) := by decide +kernel
theorem dX9_toldOf_59 : decode cX9_toldOf 59 = .ok (.getfield 208, 3) := by decide +kernel
theorem dX9_toldOf_62 : decode cX9_toldOf 62 = .ok (.ireturn, 1) := by decide +kernel
theorem dX9_toldOf_63 : decode cX9_toldOf 63 = .ok (.aload_n 0, 1) := by decide +kernel
theorem dX9_toldOf_64 : decode cX9_toldOf 64 = .ok (.getfield 211, 3) := by decide +kernel
theorem dX9_toldOf_67 : decode cX9_toldOf 67 = .ok (.ireturn, 1) := by decide +kernel
theorem dX9_toldOf_68 : decode cX9_toldOf 68 = .ok (.aload_n 0, 1) := by decide +kernel
theorem dX9_toldOf_69 : decode cX9_toldOf 69 = .ok (.getfield 214, 3) := by decide +kernel
theorem dX9_toldOf_72 : decode cX9_toldOf 72 = .ok (.ireturn, 1) := by decide +kernel
theorem dX9_toldOf_73 : decode cX9_toldOf 73 = .ok (.aload_n 0, 1) := by decide +kernel
theorem dX9_toldOf_74 : decode cX9_toldOf 74 = .ok (.getfield 217, 3) := by decide +kernel
theorem dX9_toldOf_77 : decode cX9_toldOf 77 = .ok (.ireturn, 1) := by decide +kernel
theorem dX9_toldOf_78 : decode cX9_toldOf 78 = .ok (.aload_n 0, 1) := by decide +kernel
theorem dX9_toldOf_79 : decode cX9_toldOf 79 = .ok (.getfield 163, 3) := by decide +kernel
theorem dX9_toldOf_82 : decode cX9_toldOf 82 = .ok (.aload_n 0, 1) := by decide +kernel
theorem dX9_toldOf_83 : decode cX9_toldOf 83 = .ok (.getfield 166, 3) := by decide +kernel
theorem dX9_toldOf_86 : decode cX9_toldOf 86 = .ok (.if_icmp .le 7, 3) := by decide +kernel
theorem dX9_toldOf_89 : decode cX9_toldOf 89 = .ok (.iconst 0, 1) := by decide +kernel
theorem dX9_toldOf_90 : decode cX9_toldOf 90 = .ok (.goto 19, 3) := by decide +kernel
theorem dX9_toldOf_93 : decode cX9_toldOf 93 = .ok (.aload_n 0, 1) := by decide +kernel
theorem dX9_toldOf_94 : decode cX9_toldOf 94 = .ok (.getfield 166, 3) := by decide +kernel
theorem dX9_toldOf_97 : decode cX9_toldOf 97 = .ok (.aload_n 0, 1) := by decide +kernel
theorem dX9_toldOf_98 : decode cX9_toldOf 98 = .ok (.getfield 163, 3) := by decide +kernel
theorem dX9_toldOf_101 : decode cX9_toldOf 101 = .ok (.if_icmp .le 7, 3) := by decide +kernel
theorem dX9_toldOf_104 : decode cX9_toldOf 104 = .ok (.iconst 1, 1) := by decide +kernel
theorem dX9_toldOf_105 : decode cX9_toldOf 105 = .ok (.goto 4, 3) := by decide +kernel
theorem dX9_toldOf_108 : decode cX9_toldOf 108 = .ok (.iconst (-1), 1) := by decide +kernel
theorem dX9_toldOf_109 : decode cX9_toldOf 109 = .ok (.ireturn, 1) := by decide +kernel
theorem dX9_toldOf_110 : decode cX9_toldOf 110 = .ok (.aload_n 0, 1) := by decide +kernel
theorem dX9_toldOf_111 : decode cX9_toldOf 111 = .ok (.getfield 154, 3) := by decide +kernel
theorem dX9_toldOf_114 : decode cX9_toldOf 114 = .ok (.ireturn, 1) := by decide +kernel
theorem dX9_toldOf_115 : decode cX9_toldOf 115 = .ok (.aload_n 0, 1) := by decide +kernel
theorem dX9_toldOf_116 : decode cX9_toldOf 116 = .ok (.getfield 157, 3) := by decide +kernel
theorem dX9_toldOf_119 : decode cX9_toldOf 119 = .ok (.ireturn, 1) := by decide +kernel
theorem dX9_played_0 : decode cX9_played 0 = .ok (.aload_n 0, 1) := by decide +kernel
theorem dX9_played_1 : decode cX9_played 1 = .ok (.iload_n 1, 1) := by decide +kernel
theorem dX9_played_2 : decode cX9_played 2 = .ok (.invokevirtual 202, 3) := by decide +kernel
theorem dX9_played_5 : decode cX9_played 5 = .ok (.ifCond .eq 39, 3) := by decide +kernel
theorem dX9_played_8 : decode cX9_played 8 = .ok (.iload_n 2, 1) := by decide +kernel
theorem dX9_played_9 : decode cX9_played 9 = .ok (.invokestatic 110, 3) := by decide +kernel
theorem dX9_played_12 : decode cX9_played 12 = .ok (.ifCond .eq 32, 3) := by decide +kernel
theorem dX9_played_15 : decode cX9_played 15 = .ok (.iload_n 3, 1) := by decide +kernel
theorem dX9_played_16 : decode cX9_played 16 = .ok (.invokestatic 110, 3) := by decide +kernel
theorem dX9_played_19 : decode cX9_played 19 = .ok (.ifCond .eq 25, 3) := by decide +kernel
theorem dX9_played_22 : decode cX9_played 22 = .ok (.iload 4, 2) := by decide +kernel
theorem dX9_played_24 : decode cX9_played 24 = .ok (.iconst 0, 1) := by decide +kernel
theorem dX9_played_25 : decode cX9_played 25 = .ok (.ldc 232, 2) := by decide +kernel
theorem dX9_played_27 : decode cX9_played 27 = .ok (.invokestatic 106, 3) := by decide +kernel
theorem dX9_played_30 : decode cX9_played 30 = .ok (.ifCond .eq 14, 3) := by decide +kernel
theorem dX9_played_33 : decode cX9_played 33 = .ok (.iload 5, 2) := by decide +kernel
theorem dX9_played_35 : decode cX9_played 35 = .ok (.iconst 0, 1) := by decide +kernel
theorem dX9_played_36 : decode cX9_played 36 = .ok (.bipush 8, 2) := by decide +kernel
theorem dX9_played_38 : decode cX9_played 38 = .ok (.invokestatic 106, 3) := by decide +kernel
theorem dX9_played_41 : decode cX9_played 41 = .ok (.ifCond .ne 6, 3) := by decide +kernel
theorem dX9_played_44 : decode cX9_played 44 = .ok (.bipush (-2), 2) := by decide +kernel
theorem dX9_played_46 : decode cX9_played 46 = .ok (.ireturn, 1) := by decide +kernel
theorem dX9_played_47 : decode cX9_played 47 = .ok (.aload_n 0, 1) := by decide +kernel
theorem dX9_played_48 : decode cX9_played 48 = .ok (.iload_n 2, 1) := by decide +kernel
theorem dX9_played_49 : decode cX9_played 49 = .ok (.iload_n 3, 1) := by decide +kernel
theorem dX9_played_50 : decode cX9_played 50 = .ok (.iload 4, 2) := by decide +kernel
theorem dX9_played_52 : decode cX9_played 52 = .ok (.invokevirtual 233, 3) := by decide +kernel
theorem dX9_played_55 : decode cX9_played 55 = .ok (.aload_n 0, 1) := by decide +kernel
theorem dX9_played_56 : decode cX9_played 56 = .ok (.iload_n 1, 1) := by decide +kernel
theorem dX9_played_57 : decode cX9_played 57 = .ok (.invokevirtual 236, 3) := by decide +kernel
theorem dX9_played_60 : decode cX9_played 60 = .ok (.aload_n 0, 1) := by decide +kernel
theorem dX9_played_61 : decode cX9_played 61 = .ok (.iload 5, 2) := by decide +kernel
theorem dX9_played_63 : decode cX9_played 63 = .ok (.invokevirtual 239, 3) := by decide +kernel
theorem dX9_played_66 : decode cX9_played 66 = .ok (.ireturn, 1) := by decide +kernel
theorem dX9_goes_0 : decode cX9_goes 0 = .ok (.aload_n 0, 1) := by decide +kernel
theorem dX9_goes_1 : decode cX9_goes 1 = .ok (.iload_n 1, 1) := by decide +kernel
theorem dX9_goes_2 : decode cX9_goes 2 = .ok (.invokevirtual 202, 3) := by decide +kernel
theorem dX9_goes_5 : decode cX9_goes 5 = .ok (.ifCond .eq 26, 3) := by decide +kernel
theorem dX9_goes_8 : decode cX9_goes 8 = .ok (.iload_n 2, 1) := by decide +kernel
theorem dX9_goes_9 : decode cX9_goes 9 = .ok (.invokestatic 110, 3) := by decide +kernel
theorem dX9_goes_12 : decode cX9_goes 12 = .ok (.ifCond .eq 19, 3) := by decide +kernel
theorem dX9_goes_15 : decode cX9_goes 15 = .ok (.iload_n 3, 1) := by decide +kernel
theorem dX9_goes_16 : decode cX9_goes 16 = .ok (.iconst 0, 1) := by decide +kernel
theorem dX9_goes_17 : decode cX9_goes 17 = .ok (.aload_n 0, 1) := by decide +kernel
theorem dX9_goes_18 : decode cX9_goes 18 = .ok (.getfield 32, 3) := by decide +kernel
theorem dX9_goes_21 : decode cX9_goes 21 = .ok (.iload_n 1, 1) := by decide +kernel
theorem dX9_goes_22 : decode cX9_goes 22 = .ok (.iaload, 1) := by decide +kernel
theorem dX9_goes_23 : decode cX9_goes 23 = .ok (.iconst 1, 1) := by decide +kernel
theorem dX9_goes_24 : decode cX9_goes 24 = .ok (.isub, 1) := by decide +kernel
theorem dX9_goes_25 : decode cX9_goes 25 = .ok (.invokestatic 106, 3) := by decide +kernel
theorem dX9_goes_28 : decode cX9_goes 28 = .ok (.ifCond .ne 6, 3) := by decide +kernel
theorem dX9_goes_31 : decode cX9_goes 31 = .ok (.bipush (-2), 2) := by decide +kernel
theorem dX9_goes_33 : decode cX9_goes 33 = .ok (.ireturn, 1) := by decide +kernel
theorem dX9_goes_34 : decode cX9_goes 34 = .ok (.aload_n 0, 1) := by decide +kernel
theorem dX9_goes_35 : decode cX9_goes 35 = .ok (.iload_n 2, 1) := by decide +kernel
theorem dX9_goes_36 : decode cX9_goes 36 = .ok (.iload_n 2, 1) := by decide +kernel
theorem dX9_goes_37 : decode cX9_goes 37 = .ok (.iconst 0, 1) := by decide +kernel
theorem dX9_goes_38 : decode cX9_goes 38 = .ok (.invokevirtual 233, 3) := by decide +kernel
theorem dX9_goes_41 : decode cX9_goes 41 = .ok (.aload_n 0, 1) := by decide +kernel
theorem dX9_goes_42 : decode cX9_goes 42 = .ok (.invokevirtual 223, 3) := by decide +kernel
theorem dX9_goes_45 : decode cX9_goes 45 = .ok (.aload_n 0, 1) := by decide +kernel
theorem dX9_goes_46 : decode cX9_goes 46 = .ok (.iload_n 1, 1) := by decide +kernel
theorem dX9_goes_47 : decode cX9_goes 47 = .ok (.invokevirtual 226, 3) := by decide +kernel
theorem dX9_goes_50 : decode cX9_goes 50 = .ok (.ifCond .ne 26, 3) := by decide +kernel
theorem dX9_goes_53 : decode cX9_goes 53 = .ok (.aload_n 0, 1) := by decide +kernel
theorem dX9_goes_54 : decode cX9_goes 54 = .ok (.iload_n 1, 1) := by decide +kernel
theorem dX9_goes_55 : decode cX9_goes 55 = .ok (.invokevirtual 229, 3) := by decide +kernel
theorem dX9_goes_58 : decode cX9_goes 58 = .ok (.istore 4, 2) := by decide +kernel
theorem dX9_goes_60 : decode cX9_goes 60 = .ok (.aload_n 0, 1) := by decide +kernel
theorem dX9_goes_61 : decode cX9_goes 61 = .ok (.getfield 217, 3) := by decide +kernel
theorem dX9_goes_64 : decode cX9_goes 64 = .ok (.iload_n 3, 1) := by decide +kernel
theorem dX9_goes_65 : decode cX9_goes 65 = .ok (.iconst 1, 1) := by decide +kernel
theorem dX9_goes_66 : decode cX9_goes 66 = .ok (.iadd, 1) := by decide +kernel
theorem dX9_goes_67 : decode cX9_goes 67 = .ok (.if_icmp .ne 6, 3) := by decide +kernel
theorem dX9_goes_70 : decode cX9_goes 70 = .ok (.iload 4, 2) := by decide +kernel
theorem dX9_goes_72 : decode cX9_goes 72 = .ok (.ireturn, 1) := by decide +kernel
theorem dX9_goes_73 : decode cX9_goes 73 = .ok (.goto (-28), 3) := by decide +kernel
theorem dX9_goes_76 : decode cX9_goes 76 = .ok (.iconst 4, 1) := by decide +kernel
theorem dX9_goes_77 : decode cX9_goes 77 = .ok (.ireturn, 1) := by decide +kernel
theorem dX9_winner_0 : decode cX9_winner 0 = .ok (.aload_n 0, 1) := by decide +kernel
theorem dX9_winner_1 : decode cX9_winner 1 = .ok (.iload_n 2, 1) := by decide +kernel
theorem dX9_winner_2 : decode cX9_winner 2 = .ok (.iload_n 2, 1) := by decide +kernel
theorem dX9_winner_3 : decode cX9_winner 3 = .ok (.iconst 0, 1) := by decide +kernel
theorem dX9_winner_4 : decode cX9_winner 4 = .ok (.invokevirtual 233, 3) := by decide +kernel
theorem dX9_winner_7 : decode cX9_winner 7 = .ok (.aload_n 0, 1) := by decide +kernel
theorem dX9_winner_8 : decode cX9_winner 8 = .ok (.iload_n 1, 1) := by decide +kernel
theorem dX9_winner_9 : decode cX9_winner 9 = .ok (.invokevirtual 236, 3) := by decide +kernel
theorem dX9_winner_12 : decode cX9_winner 12 = .ok (.aload_n 0, 1) := by decide +kernel
theorem dX9_winner_13 : decode cX9_winner 13 = .ok (.bipush 6, 2) := by decide +kernel
theorem dX9_winner_15 : decode cX9_winner 15 = .ok (.invokevirtual 239, 3) := by decide +kernel
theorem dX9_winner_18 : decode cX9_winner 18 = .ok (.ireturn, 1) := by decide +kernel
theorem dX9_turned_0 : decode cX9_turned 0 = .ok (.iload_n 1, 1) := by decide +kernel
theorem dX9_turned_1 : decode cX9_turned 1 = .ok (.invokestatic 110, 3) := by decide +kernel
theorem dX9_turned_4 : decode cX9_turned 4 = .ok (.ifCond .eq 10, 3) := by decide +kernel
theorem dX9_turned_7 : decode cX9_turned 7 = .ok (.iload_n 2, 1) := by decide +kernel
theorem dX9_turned_8 : decode cX9_turned 8 = .ok (.invokestatic 110, 3) := by decide +kernel
theorem dX9_turned_11 : decode cX9_turned 11 = .ok (.ifCond .ne 6, 3) := by decide +kernel
theorem dX9_turned_14 : decode cX9_turned 14 = .ok (.bipush (-2), 2) := by decide +kernel
theorem dX9_turned_16 : decode cX9_turned 16 = .ok (.ireturn, 1) := by decide +kernel
theorem dX9_turned_17 : decode cX9_turned 17 = .ok (.iconst 0, 1) := by decide +kernel
theorem dX9_turned_18 : decode cX9_turned 18 = .ok (.istore_n 3, 1) := by decide +kernel
theorem dX9_turned_19 : decode cX9_turned 19 = .ok (.iconst 0, 1) := by decide +kernel
theorem dX9_turned_20 : decode cX9_turned 20 = .ok (.istore 4, 2) := by decide +kernel
theorem dX9_turned_22 : decode cX9_turned 22 = .ok (.iload 4, 2) := by decide +kernel
theorem dX9_turned_24 : decode cX9_turned 24 = .ok (.aload_n 0, 1) := by decide +kernel
theorem dX9_turned_25 : decode cX9_turned 25 = .ok (.getfield 193, 3) := by decide +kernel
theorem dX9_turned_28 : decode cX9_turned 28 = .ok (.if_icmp .ge 34, 3) := by decide +kernel
theorem dX9_turned_31 : decode cX9_turned 31 = .ok (.iload_n 3, 1) := by decide +kernel
theorem dX9_turned_32 : decode cX9_turned 32 = .ok (.aload_n 0, 1) := by decide +kernel
theorem dX9_turned_33 : decode cX9_turned 33 = .ok (.iload 4, 2) := by decide +kernel
theorem dX9_turned_35 : decode cX9_turned 35 = .ok (.iload_n 1, 1) := by decide +kernel
theorem dX9_turned_36 : decode cX9_turned 36 = .ok (.invokevirtual 242, 3) := by decide +kernel
theorem dX9_turned_39 : decode cX9_turned 39 = .ok (.aload_n 0, 1) := by decide +kernel
theorem dX9_turned_40 : decode cX9_turned 40 = .ok (.iload 4, 2) := by decide +kernel
theorem dX9_turned_42 : decode cX9_turned 42 = .ok (.iload_n 2, 1) := by decide +kernel
theorem dX9_turned_43 : decode cX9_turned 43 = .ok (.invokevirtual 242, 3) := by decide +kernel
theorem dX9_turned_46 : decode cX9_turned 46 = .ok (.if_icmp .ne 7, 3) := by decide +kernel
theorem dX9_turned_49 : decode cX9_turned 49 = .ok (.iconst 0, 1) := by decide +kernel
theorem dX9_turned_50 : decode cX9_turned 50 = .ok (.goto 4, 3) := by decide +kernel
theorem dX9_turned_53 : decode cX9_turned 53 = .ok (.iconst 1, 1) := by decide +kernel
theorem dX9_turned_54 : decode cX9_turned 54 = .ok (.iadd, 1) := by decide +kernel
theorem dX9_turned_55 : decode cX9_turned 55 = .ok (.istore_n 3, 1) := by decide +kernel
theorem dX9_turned_56 : decode cX9_turned 56 = .ok (.iinc 4 1, 3) := by decide +kernel
theorem dX9_turned_59 : decode cX9_turned 59 = .ok (.goto (-37), 3) := by decide +kernel
theorem dX9_turned_62 : decode cX9_turned 62 = .ok (.iload_n 3, 1) := by decide +kernel
theorem dX9_turned_63 : decode cX9_turned 63 = .ok (.ireturn, 1) := by decide +kernel
