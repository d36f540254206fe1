theorem dX11_stands_17 : decode cX11_stands 17 = .ok (.ifCond .eq 16, 3) := by decide +kernel
theorem dX11_stands_20 : decode cX11_stands 20 = .ok (.aload_n 0, 1) := by decide +kernel
theorem dX11_stands_21 : decode cX11_stands 21 = .ok (.getfield 67, 3) := by decide +kernel
theorem dX11_stands_24 : decode cX11_stands 24 = .ok (.iload_n 1, 1) := by decide +kernel
theorem dX11_stands_25 : decode cX11_stands 25 = .ok (.iload_n 2, 1) := by decide +kernel
theorem dX11_stands_26 : decode cX11_stands 26 = .ok (.iload_n 3, 1) := by decide +kernel
theorem dX11_stands_27 : decode cX11_stands 27 = .ok (.invokevirtual 339, 3) := by decide +kernel
theorem dX11_stands_30 : decode cX11_stands 30 = .ok (.goto 4, 3) := by decide +kernel
theorem dX11_stands_33 : decode cX11_stands 33 = .ok (.iconst (-1), 1) := by decide +kernel
theorem dX11_stands_34 : decode cX11_stands 34 = .ok (.ireturn, 1) := by decide +kernel
theorem dX11_returns_0 : decode cX11_returns 0 = .ok (.aload_n 0, 1) := by decide +kernel
theorem dX11_returns_1 : decode cX11_returns 1 = .ok (.getfield 19, 3) := by decide +kernel
theorem dX11_returns_4 : decode cX11_returns 4 = .ok (.iload_n 1, 1) := by decide +kernel
theorem dX11_returns_5 : decode cX11_returns 5 = .ok (.iload_n 2, 1) := by decide +kernel
theorem dX11_returns_6 : decode cX11_returns 6 = .ok (.invokevirtual 213, 3) := by decide +kernel
theorem dX11_returns_9 : decode cX11_returns 9 = .ok (.ifCond .eq 26, 3) := by decide +kernel
theorem dX11_returns_12 : decode cX11_returns 12 = .ok (.aload_n 0, 1) := by decide +kernel
theorem dX11_returns_13 : decode cX11_returns 13 = .ok (.getfield 44, 3) := by decide +kernel
theorem dX11_returns_16 : decode cX11_returns 16 = .ok (.iload_n 2, 1) := by decide +kernel
theorem dX11_returns_17 : decode cX11_returns 17 = .ok (.invokevirtual 263, 3) := by decide +kernel
theorem dX11_returns_20 : decode cX11_returns 20 = .ok (.ifCond .ne 15, 3) := by decide +kernel
theorem dX11_returns_23 : decode cX11_returns 23 = .ok (.aload_n 0, 1) := by decide +kernel
theorem dX11_returns_24 : decode cX11_returns 24 = .ok (.getfield 67, 3) := by decide +kernel
theorem dX11_returns_27 : decode cX11_returns 27 = .ok (.iload_n 1, 1) := by decide +kernel
theorem dX11_returns_28 : decode cX11_returns 28 = .ok (.iload_n 2, 1) := by decide +kernel
theorem dX11_returns_29 : decode cX11_returns 29 = .ok (.invokevirtual 342, 3) := by decide +kernel
theorem dX11_returns_32 : decode cX11_returns 32 = .ok (.goto 4, 3) := by decide +kernel
theorem dX11_returns_35 : decode cX11_returns 35 = .ok (.iconst (-1), 1) := by decide +kernel
theorem dX11_returns_36 : decode cX11_returns 36 = .ok (.ireturn, 1) := by decide +kernel
theorem dX11_under_0 : decode cX11_under 0 = .ok (.aload_n 0, 1) := by decide +kernel
theorem dX11_under_1 : decode cX11_under 1 = .ok (.iload_n 1, 1) := by decide +kernel
theorem dX11_under_2 : decode cX11_under 2 = .ok (.iload_n 2, 1) := by decide +kernel
theorem dX11_under_3 : decode cX11_under 3 = .ok (.invokevirtual 286, 3) := by decide +kernel
theorem dX11_under_6 : decode cX11_under 6 = .ok (.ifCond .eq 28, 3) := by decide +kernel
theorem dX11_under_9 : decode cX11_under 9 = .ok (.aload_n 0, 1) := by decide +kernel
theorem dX11_under_10 : decode cX11_under 10 = .ok (.getfield 19, 3) := by decide +kernel
theorem dX11_under_13 : decode cX11_under 13 = .ok (.iload_n 3, 1) := by decide +kernel
theorem dX11_under_14 : decode cX11_under 14 = .ok (.invokevirtual 345, 3) := by decide +kernel
theorem dX11_under_17 : decode cX11_under 17 = .ok (.ifCond .eq 17, 3) := by decide +kernel
theorem dX11_under_20 : decode cX11_under 20 = .ok (.aload_n 0, 1) := by decide +kernel
theorem dX11_under_21 : decode cX11_under 21 = .ok (.sipush 300, 3) := by decide +kernel
theorem dX11_under_24 : decode cX11_under 24 = .ok (.invokevirtual 309, 3) := by decide +kernel
theorem dX11_under_27 : decode cX11_under 27 = .ok (.ifCond .eq 7, 3) := by decide +kernel
theorem dX11_under_30 : decode cX11_under 30 = .ok (.iconst 1, 1) := by decide +kernel
theorem dX11_under_31 : decode cX11_under 31 = .ok (.goto 4, 3) := by decide +kernel
theorem dX11_under_34 : decode cX11_under 34 = .ok (.iconst 0, 1) := by decide +kernel
theorem dX11_under_35 : decode cX11_under 35 = .ok (.istore 4, 2) := by decide +kernel
theorem dX11_under_37 : decode cX11_under 37 = .ok (.iload 4, 2) := by decide +kernel
theorem dX11_under_39 : decode cX11_under 39 = .ok (.ifCond .eq 16, 3) := by decide +kernel
theorem dX11_under_42 : decode cX11_under 42 = .ok (.aload_n 0, 1) := by decide +kernel
theorem dX11_under_43 : decode cX11_under 43 = .ok (.getfield 67, 3) := by decide +kernel
theorem dX11_under_46 : decode cX11_under 46 = .ok (.iload_n 1, 1) := by decide +kernel
theorem dX11_under_47 : decode cX11_under 47 = .ok (.iload_n 2, 1) := by decide +kernel
theorem dX11_under_48 : decode cX11_under 48 = .ok (.iload_n 3, 1) := by decide +kernel
theorem dX11_under_49 : decode cX11_under 49 = .ok (.invokevirtual 333, 3) := by decide +kernel
theorem dX11_under_52 : decode cX11_under 52 = .ok (.goto 4, 3) := by decide +kernel
theorem dX11_under_55 : decode cX11_under 55 = .ok (.iconst (-1), 1) := by decide +kernel
theorem dX11_under_56 : decode cX11_under 56 = .ok (.ireturn, 1) := by decide +kernel
theorem dX11_rank_0 : decode cX11_rank 0 = .ok (.aload_n 0, 1) := by decide +kernel
theorem dX11_rank_1 : decode cX11_rank 1 = .ok (.getfield 19, 3) := by decide +kernel
theorem dX11_rank_4 : decode cX11_rank 4 = .ok (.iload_n 1, 1) := by decide +kernel
theorem dX11_rank_5 : decode cX11_rank 5 = .ok (.invokevirtual 182, 3) := by decide +kernel
theorem dX11_rank_8 : decode cX11_rank 8 = .ok (.ifCond .eq 23, 3) := by decide +kernel
theorem dX11_rank_11 : decode cX11_rank 11 = .ok (.iload_n 2, 1) := by decide +kernel
theorem dX11_rank_12 : decode cX11_rank 12 = .ok (.ifCond .lt 19, 3) := by decide +kernel
theorem dX11_rank_15 : decode cX11_rank 15 = .ok (.iload_n 2, 1) := by decide +kernel
theorem dX11_rank_16 : decode cX11_rank 16 = .ok (.aload_n 0, 1) := by decide +kernel
theorem dX11_rank_17 : decode cX11_rank 17 = .ok (.getfield 19, 3) := by decide +kernel
theorem dX11_rank_20 : decode cX11_rank 20 = .ok (.getfield 198, 3) := by decide +kernel
theorem dX11_rank_23 : decode cX11_rank 23 = .ok (.iload_n 1, 1) := by decide +kernel
theorem dX11_rank_24 : decode cX11_rank 24 = .ok (.iaload, 1) := by decide +kernel
theorem dX11_rank_25 : decode cX11_rank 25 = .ok (.invokestatic 348, 3) := by decide +kernel
theorem dX11_rank_28 : decode cX11_rank 28 = .ok (.if_icmp .lt 5, 3) := by decide +kernel
theorem dX11_rank_31 : decode cX11_rank 31 = .ok (.iconst (-1), 1) := by decide +kernel
theorem dX11_rank_32 : decode cX11_rank 32 = .ok (.ireturn, 1) := by decide +kernel
theorem dX11_rank_33 : decode cX11_rank 33 = .ok (.aload_n 0, 1) := by decide +kernel
theorem dX11_rank_34 : decode cX11_rank 34 = .ok (.getfield 19, 3) := by decide +kernel
theorem dX11_rank_37 : decode cX11_rank 37 = .ok (.getfield 198, 3) := by decide +kernel
theorem dX11_rank_40 : decode cX11_rank 40 = .ok (.iload_n 1, 1) := by decide +kernel
theorem dX11_rank_41 : decode cX11_rank 41 = .ok (.iaload, 1) := by decide +kernel
theorem dX11_rank_42 : decode cX11_rank 42 = .ok (.istore_n 3, 1) := by decide +kernel
theorem dX11_rank_43 : decode cX11_rank 43 = .ok (.aload_n 0, 1) := by decide +kernel
theorem dX11_rank_44 : decode cX11_rank 44 = .ok (.getfield 44, 3) := by decide +kernel
theorem dX11_rank_47 : decode cX11_rank 47 = .ok (.iload_n 1, 1) := by decide +kernel
theorem dX11_rank_48 : decode cX11_rank 48 = .ok (.iload_n 3, 1) := by decide +kernel
theorem dX11_rank_49 : decode cX11_rank 49 = .ok (.invokevirtual 353, 3) := by decide +kernel
theorem dX11_rank_52 : decode cX11_rank 52 = .ok (.istore 4, 2) := by decide +kernel
theorem dX11_rank_54 : decode cX11_rank 54 = .ok (.iconst 0, 1) := by decide +kernel
theorem dX11_rank_55 : decode cX11_rank 55 = .ok (.istore 5, 2) := by decide +kernel
theorem dX11_rank_57 : decode cX11_rank 57 = .ok (.iload 5, 2) := by decide +kernel
theorem dX11_rank_59 : decode cX11_rank 59 = .ok (.iload_n 2, 1) := by decide +kernel
theorem dX11_rank_60 : decode cX11_rank 60 = .ok (.if_icmp .ge 35, 3) := by decide +kernel
theorem dX11_rank_63 : decode cX11_rank 63 = .ok (.iload 4, 2) := by decide +kernel
theorem dX11_rank_65 : decode cX11_rank 65 = .ok (.iconst (-1), 1) := by decide +kernel
theorem dX11_rank_66 : decode cX11_rank 66 = .ok (.if_icmp .eq 29, 3) := by decide +kernel
theorem dX11_rank_69 : decode cX11_rank 69 = .ok (.iload_n 3, 1) := by decide +kernel
theorem dX11_rank_70 : decode cX11_rank 70 = .ok (.iconst 1, 1) := by decide +kernel
theorem dX11_rank_71 : decode cX11_rank 71 = .ok (.iload 4, 2) := by decide +kernel
theorem dX11_rank_73 : decode cX11_rank 73 = .ok (.ishl, 1) := by decide +kernel
theorem dX11_rank_74 : decode cX11_rank 74 = .ok (.iconst (-1), 1) := by decide +kernel
theorem dX11_rank_75 : decode cX11_rank 75 = .ok (.ixor, 1) := by decide +kernel
theorem dX11_rank_76 : decode cX11_rank 76 = .ok (.iand, 1) := by decide +kernel
theorem dX11_rank_77 : decode cX11_rank 77 = .ok (.istore_n 3, 1) := by decide +kernel
theorem dX11_rank_78 : decode cX11_rank 78 = .ok (.aload_n 0, 1) := by decide +kernel
theorem dX11_rank_79 : decode cX11_rank 79 = .ok (.getfield 44, 3) := by decide +kernel
theorem dX11_rank_82 : decode cX11_rank 82 = .ok (.iload_n 1, 1) := by decide +kernel
theorem dX11_rank_83 : decode cX11_rank 83 = .ok (.iload_n 3, 1) := by decide +kernel
theorem dX11_rank_84 : decode cX11_rank 84 = .ok (.invokevirtual 353, 3) := by decide +kernel
theorem dX11_rank_87 : decode cX11_rank 87 = .ok (.istore 4, 2) := by decide +kernel
theorem dX11_rank_89 : decode cX11_rank 89 = .ok (.iinc 5 1, 3) := by decide +kernel
theorem dX11_rank_92 : decode cX11_rank 92 = .ok (.goto (-35), 3) := by decide +kernel
theorem dX11_rank_95 : decode cX11_rank 95 = .ok (.iload 4, 2) := by decide +kernel
theorem dX11_rank_97 : decode cX11_rank 97 = .ok (.ireturn, 1) := by decide +kernel
theorem dX11_log_0 : decode cX11_log 0 = .ok (.aload_n 0, 1) := by decide +kernel
theorem dX11_log_1 : decode cX11_log 1 = .ok (.getfield 44, 3) := by decide +kernel
theorem dX11_log_4 : decode cX11_log 4 = .ok (.getfield 168, 3) := by decide +kernel
theorem dX11_log_7 : decode cX11_log 7 = .ok (.iload_n 1, 1) := by decide +kernel
theorem dX11_log_8 : decode cX11_log 8 = .ok (.iload_n 2, 1) := by decide +kernel
theorem dX11_log_9 : decode cX11_log 9 = .ok (.invokevirtual 356, 3) := by decide +kernel
theorem dX11_log_12 : decode cX11_log 12 = .ok (.ireturn, 1) := by decide +kernel
theorem dX11_undo_0 : decode cX11_undo 0 = .ok (.aload_n 0, 1) := by decide +kernel
theorem dX11_undo_1 : decode cX11_undo 1 = .ok (.getfield 19, 3) := by decide +kernel
theorem dX11_undo_4 : decode cX11_undo 4 = .ok (.getfield 97, 3) := by decide +kernel
theorem dX11_undo_7 : decode cX11_undo 7 = .ok (.ifCond .ne 6, 3) := by decide +kernel
theorem dX11_undo_10 : decode cX11_undo 10 = .ok (.bipush (-2), 2) := by decide +kernel
theorem dX11_undo_12 : decode cX11_undo 12 = .ok (.ireturn, 1) := by decide +kernel
theorem dX11_undo_13 : decode cX11_undo 13 = .ok (.aload_n 0, 1) := by decide +kernel
theorem dX11_undo_14 : decode cX11_undo 14 = .ok (.getfield 60, 3) := by decide +kernel
theorem dX11_undo_17 : decode cX11_undo 17 = .ok (.aload_n 0, 1) := by decide +kernel
theorem dX11_undo_18 : decode cX11_undo 18 = .ok (.getfield 44, 3) := by decide +kernel
theorem dX11_undo_21 : decode cX11_undo 21 = .ok (.invokevirtual 358, 3) := by decide +kernel
theorem dX11_undo_24 : decode cX11_undo 24 = .ok (.ifCond .eq 13, 3) := by decide +kernel
theorem dX11_undo_27 : decode cX11_undo 27 = .ok (.aload_n 0, 1) := by decide +kernel
theorem dX11_undo_28 : decode cX11_undo 28 = .ok (.getfield 60, 3) := by decide +kernel
theorem dX11_undo_31 : decode cX11_undo 31 = .ok (.getfield 175, 3) := by decide +kernel
theorem dX11_undo_34 : decode cX11_undo 34 = .ok (.goto 5, 3) := by decide +kernel
theorem dX11_undo_37 : decode cX11_undo 37 = .ok (.bipush (-3), 2) := by decide +kernel
theorem dX11_undo_39 : decode cX11_undo 39 = .ok (.ireturn, 1) := by decide +kernel
theorem dX11_keep_0 : decode cX11_keep 0 = .ok (.aload_n 0, 1) := by decide +kernel
theorem dX11_keep_1 : decode cX11_keep 1 = .ok (.getfield 19, 3) := by decide +kernel
theorem dX11_keep_4 : decode cX11_keep 4 = .ok (.getfield 97, 3) := by decide +kernel
theorem dX11_keep_7 : decode cX11_keep 7 = .ok (.ifCond .eq 12, 3) := by decide +kernel
theorem dX11_keep_10 : decode cX11_keep 10 = .ok (.iload_n 1, 1) := by decide +kernel
theorem dX11_keep_11 : decode cX11_keep 11 = .ok (.ifCond .lt 8, 3) := by decide +kernel
theorem dX11_keep_14 : decode cX11_keep 14 = .ok (.iload_n 1, 1) := by decide +kernel
theorem dX11_keep_15 : decode cX11_keep 15 = .ok (.iconst 2, 1) := by decide +kernel
theorem dX11_keep_16 : decode cX11_keep 16 = .ok (.if_icmp .lt 6, 3) := by decide +kernel
theorem dX11_keep_19 : decode cX11_keep 19 = .ok (.bipush (-2), 2) := by decide +kernel
theorem dX11_keep_21 : decode cX11_keep 21 = .ok (.ireturn, 1) := by decide +kernel
theorem dX11_keep_22 : decode cX11_keep 22 = .ok (.aload_n 0, 1) := by decide +kernel
theorem dX11_keep_23 : decode cX11_keep 23 = .ok (.getfield 60, 3) := by decide +kernel
theorem dX11_keep_26 : decode cX11_keep 26 = .ok (.iload_n 1, 1) := by decide +kernel
theorem dX11_keep_27 : decode cX11_keep 27 = .ok (.aload_n 0, 1) := by decide +kernel
theorem dX11_keep_28 : decode cX11_keep 28 = .ok (.getfield 44, 3) := by decide +kernel
theorem dX11_keep_31 : decode cX11_keep 31 = .ok (.invokevirtual 362, 3) := by decide +kernel
theorem dX11_keep_34 : decode cX11_keep 34 = .ok (.aload_n 0, 1) := by decide +kernel
theorem dX11_keep_35 : decode cX11_keep 35 = .ok (.getfield 44, 3) := by decide +kernel
theorem dX11_keep_38 : decode cX11_keep 38 = .ok (.getfield 127, 3) := by decide +kernel
theorem dX11_keep_41 : decode cX11_keep 41 = .ok (.ireturn, 1) := by decide +kernel
theorem dX11_back_0 : decode cX11_back 0 = .ok (.aload_n 0, 1) := by decide +kernel
theorem dX11_back_1 : decode cX11_back 1 = .ok (.getfield 19, 3) := by decide +kernel
theorem dX11_back_4 : decode cX11_back 4 = .ok (.getfield 97, 3) := by decide +kernel
theorem dX11_back_7 : decode cX11_back 7 = .ok (.ifCond .eq 12, 3) := by decide +kernel
theorem dX11_back_10 : decode cX11_back 10 = .ok (.iload_n 1, 1) := by decide +kernel
theorem dX11_back_11 : decode cX11_back 11 = .ok (.ifCond .lt 8, 3) := by decide +kernel
theorem dX11_back_14 : decode cX11_back 14 = .ok (.iload_n 1, 1) := by decide +kernel
theorem dX11_back_15 : decode cX11_back 15 = .ok (.iconst 2, 1) := by decide +kernel
theorem dX11_back_16 : decode cX11_back 16 = .ok (.if_icmp .lt 6, 3) := by decide +kernel
theorem dX11_back_19 : decode cX11_back 19 = .ok (.bipush (-2), 2) := by decide +kernel
theorem dX11_back_21 : decode cX11_back 21 = .ok (.ireturn, 1) := by decide +kernel
theorem dX11_back_22 : decode cX11_back 22 = .ok (.aload_n 0, 1) := by decide +kernel
theorem dX11_back_23 : decode cX11_back 23 = .ok (.getfield 60, 3) := by decide +kernel
theorem dX11_back_26 : decode cX11_back 26 = .ok (.iload_n 1, 1) := by decide +kernel
theorem dX11_back_27 : decode cX11_back 27 = .ok (.aload_n 0, 1) := by decide +kernel
theorem dX11_back_28 : decode cX11_back 28 = .ok (.getfield 44, 3) := by decide +kernel
theorem dX11_back_31 : decode cX11_back 31 = .ok (.invokevirtual 366, 3) := by decide +kernel
theorem dX11_back_34 : decode cX11_back 34 = .ok (.ifCond .eq 13, 3) := by decide +kernel
theorem dX11_back_37 : decode cX11_back 37 = .ok (.aload_n 0, 1) := by decide +kernel
theorem dX11_back_38 : decode cX11_back 38 = .ok (.getfield 44, 3) := by decide +kernel
theorem dX11_back_41 : decode cX11_back 41 = .ok (.getfield 127, 3) := by decide +kernel
theorem dX11_back_44 : decode cX11_back 44 = .ok (.goto 5, 3) := by decide +kernel
theorem dX11_back_47 : decode cX11_back 47 = .ok (.bipush (-3), 2) := by decide +kernel
theorem dX11_back_49 : decode cX11_back 49 = .ok (.ireturn, 1) := by decide +kernel
