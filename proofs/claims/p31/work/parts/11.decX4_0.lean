theorem dX4_forgetAll_0 : decode cX4_forgetAll 0 = .ok (.aload_n 0, 1) := by decide +kernel
theorem dX4_forgetAll_1 : decode cX4_forgetAll 1 = .ok (.iconst 0, 1) := by decide +kernel
theorem dX4_forgetAll_2 : decode cX4_forgetAll 2 = .ok (.putfield 21, 3) := by decide +kernel
theorem dX4_forgetAll_5 : decode cX4_forgetAll 5 = .ok (.aload_n 0, 1) := by decide +kernel
theorem dX4_forgetAll_6 : decode cX4_forgetAll 6 = .ok (.iconst 0, 1) := by decide +kernel
theorem dX4_forgetAll_7 : decode cX4_forgetAll 7 = .ok (.putfield 25, 3) := by decide +kernel
theorem dX4_forgetAll_10 : decode cX4_forgetAll 10 = .ok (.return_, 1) := by decide +kernel
theorem dX4_save_0 : decode cX4_save 0 = .ok (.aload_n 0, 1) := by decide +kernel
theorem dX4_save_1 : decode cX4_save 1 = .ok (.aload_n 0, 1) := by decide +kernel
theorem dX4_save_2 : decode cX4_save 2 = .ok (.getfield 28, 3) := by decide +kernel
theorem dX4_save_5 : decode cX4_save 5 = .ok (.iconst 1, 1) := by decide +kernel
theorem dX4_save_6 : decode cX4_save 6 = .ok (.iadd, 1) := by decide +kernel
theorem dX4_save_7 : decode cX4_save 7 = .ok (.bipush 12, 2) := by decide +kernel
theorem dX4_save_9 : decode cX4_save 9 = .ok (.if_icmp .ge 12, 3) := by decide +kernel
theorem dX4_save_12 : decode cX4_save 12 = .ok (.aload_n 0, 1) := by decide +kernel
theorem dX4_save_13 : decode cX4_save 13 = .ok (.getfield 28, 3) := by decide +kernel
theorem dX4_save_16 : decode cX4_save 16 = .ok (.iconst 1, 1) := by decide +kernel
theorem dX4_save_17 : decode cX4_save 17 = .ok (.iadd, 1) := by decide +kernel
theorem dX4_save_18 : decode cX4_save 18 = .ok (.goto 4, 3) := by decide +kernel
theorem dX4_save_21 : decode cX4_save 21 = .ok (.iconst 0, 1) := by decide +kernel
theorem dX4_save_22 : decode cX4_save 22 = .ok (.putfield 28, 3) := by decide +kernel
theorem dX4_save_25 : decode cX4_save 25 = .ok (.aload_n 0, 1) := by decide +kernel
theorem dX4_save_26 : decode cX4_save 26 = .ok (.aload_n 0, 1) := by decide +kernel
theorem dX4_save_27 : decode cX4_save 27 = .ok (.getfield 21, 3) := by decide +kernel
theorem dX4_save_30 : decode cX4_save 30 = .ok (.iconst 1, 1) := by decide +kernel
theorem dX4_save_31 : decode cX4_save 31 = .ok (.iadd, 1) := by decide +kernel
theorem dX4_save_32 : decode cX4_save 32 = .ok (.bipush 12, 2) := by decide +kernel
theorem dX4_save_34 : decode cX4_save 34 = .ok (.invokestatic 31, 3) := by decide +kernel
theorem dX4_save_37 : decode cX4_save 37 = .ok (.putfield 21, 3) := by decide +kernel
theorem dX4_save_40 : decode cX4_save 40 = .ok (.aload_n 0, 1) := by decide +kernel
theorem dX4_save_41 : decode cX4_save 41 = .ok (.getfield 11, 3) := by decide +kernel
theorem dX4_save_44 : decode cX4_save 44 = .ok (.aload_n 0, 1) := by decide +kernel
theorem dX4_save_45 : decode cX4_save 45 = .ok (.getfield 28, 3) := by decide +kernel
theorem dX4_save_48 : decode cX4_save 48 = .ok (.aaload, 1) := by decide +kernel
theorem dX4_save_49 : decode cX4_save 49 = .ok (.aload_n 1, 1) := by decide +kernel
theorem dX4_save_50 : decode cX4_save 50 = .ok (.invokevirtual 37, 3) := by decide +kernel
theorem dX4_save_53 : decode cX4_save 53 = .ok (.return_, 1) := by decide +kernel
theorem dX4_restore_0 : decode cX4_restore 0 = .ok (.aload_n 0, 1) := by decide +kernel
theorem dX4_restore_1 : decode cX4_restore 1 = .ok (.getfield 21, 3) := by decide +kernel
theorem dX4_restore_4 : decode cX4_restore 4 = .ok (.ifCond .ne 5, 3) := by decide +kernel
theorem dX4_restore_7 : decode cX4_restore 7 = .ok (.iconst 0, 1) := by decide +kernel
theorem dX4_restore_8 : decode cX4_restore 8 = .ok (.ireturn, 1) := by decide +kernel
theorem dX4_restore_9 : decode cX4_restore 9 = .ok (.aload_n 1, 1) := by decide +kernel
theorem dX4_restore_10 : decode cX4_restore 10 = .ok (.aload_n 0, 1) := by decide +kernel
theorem dX4_restore_11 : decode cX4_restore 11 = .ok (.getfield 11, 3) := by decide +kernel
theorem dX4_restore_14 : decode cX4_restore 14 = .ok (.aload_n 0, 1) := by decide +kernel
theorem dX4_restore_15 : decode cX4_restore 15 = .ok (.getfield 28, 3) := by decide +kernel
theorem dX4_restore_18 : decode cX4_restore 18 = .ok (.aaload, 1) := by decide +kernel
theorem dX4_restore_19 : decode cX4_restore 19 = .ok (.invokevirtual 37, 3) := by decide +kernel
theorem dX4_restore_22 : decode cX4_restore 22 = .ok (.aload_n 0, 1) := by decide +kernel
theorem dX4_restore_23 : decode cX4_restore 23 = .ok (.aload_n 0, 1) := by decide +kernel
theorem dX4_restore_24 : decode cX4_restore 24 = .ok (.getfield 28, 3) := by decide +kernel
theorem dX4_restore_27 : decode cX4_restore 27 = .ok (.ifCond .le 12, 3) := by decide +kernel
theorem dX4_restore_30 : decode cX4_restore 30 = .ok (.aload_n 0, 1) := by decide +kernel
theorem dX4_restore_31 : decode cX4_restore 31 = .ok (.getfield 28, 3) := by decide +kernel
theorem dX4_restore_34 : decode cX4_restore 34 = .ok (.iconst 1, 1) := by decide +kernel
theorem dX4_restore_35 : decode cX4_restore 35 = .ok (.isub, 1) := by decide +kernel
theorem dX4_restore_36 : decode cX4_restore 36 = .ok (.goto 5, 3) := by decide +kernel
theorem dX4_restore_39 : decode cX4_restore 39 = .ok (.bipush 11, 2) := by decide +kernel
theorem dX4_restore_41 : decode cX4_restore 41 = .ok (.putfield 28, 3) := by decide +kernel
theorem dX4_restore_44 : decode cX4_restore 44 = .ok (.aload_n 0, 1) := by decide +kernel
theorem dX4_restore_45 : decode cX4_restore 45 = .ok (.dup, 1) := by decide +kernel
theorem dX4_restore_46 : decode cX4_restore 46 = .ok (.getfield 21, 3) := by decide +kernel
theorem dX4_restore_49 : decode cX4_restore 49 = .ok (.iconst 1, 1) := by decide +kernel
theorem dX4_restore_50 : decode cX4_restore 50 = .ok (.isub, 1) := by decide +kernel
theorem dX4_restore_51 : decode cX4_restore 51 = .ok (.putfield 21, 3) := by decide +kernel
theorem dX4_restore_54 : decode cX4_restore 54 = .ok (.iconst 1, 1) := by decide +kernel
theorem dX4_restore_55 : decode cX4_restore 55 = .ok (.ireturn, 1) := by decide +kernel
theorem dX4_keepImage_0 : decode cX4_keepImage 0 = .ok (.aload_n 0, 1) := by decide +kernel
theorem dX4_keepImage_1 : decode cX4_keepImage 1 = .ok (.getfield 17, 3) := by decide +kernel
theorem dX4_keepImage_4 : decode cX4_keepImage 4 = .ok (.iload_n 1, 1) := by decide +kernel
theorem dX4_keepImage_5 : decode cX4_keepImage 5 = .ok (.aaload, 1) := by decide +kernel
theorem dX4_keepImage_6 : decode cX4_keepImage 6 = .ok (.aload_n 2, 1) := by decide +kernel
theorem dX4_keepImage_7 : decode cX4_keepImage 7 = .ok (.invokevirtual 37, 3) := by decide +kernel
theorem dX4_keepImage_10 : decode cX4_keepImage 10 = .ok (.aload_n 0, 1) := by decide +kernel
theorem dX4_keepImage_11 : decode cX4_keepImage 11 = .ok (.dup, 1) := by decide +kernel
theorem dX4_keepImage_12 : decode cX4_keepImage 12 = .ok (.getfield 25, 3) := by decide +kernel
theorem dX4_keepImage_15 : decode cX4_keepImage 15 = .ok (.iconst 1, 1) := by decide +kernel
theorem dX4_keepImage_16 : decode cX4_keepImage 16 = .ok (.iload_n 1, 1) := by decide +kernel
theorem dX4_keepImage_17 : decode cX4_keepImage 17 = .ok (.ishl, 1) := by decide +kernel
theorem dX4_keepImage_18 : decode cX4_keepImage 18 = .ok (.ior, 1) := by decide +kernel
theorem dX4_keepImage_19 : decode cX4_keepImage 19 = .ok (.putfield 25, 3) := by decide +kernel
theorem dX4_keepImage_22 : decode cX4_keepImage 22 = .ok (.return_, 1) := by decide +kernel
theorem dX4_takeImage_0 : decode cX4_takeImage 0 = .ok (.aload_n 0, 1) := by decide +kernel
theorem dX4_takeImage_1 : decode cX4_takeImage 1 = .ok (.getfield 25, 3) := by decide +kernel
theorem dX4_takeImage_4 : decode cX4_takeImage 4 = .ok (.iload_n 1, 1) := by decide +kernel
theorem dX4_takeImage_5 : decode cX4_takeImage 5 = .ok (.ishr, 1) := by decide +kernel
theorem dX4_takeImage_6 : decode cX4_takeImage 6 = .ok (.iconst 1, 1) := by decide +kernel
theorem dX4_takeImage_7 : decode cX4_takeImage 7 = .ok (.iand, 1) := by decide +kernel
theorem dX4_takeImage_8 : decode cX4_takeImage 8 = .ok (.ifCond .ne 5, 3) := by decide +kernel
theorem dX4_takeImage_11 : decode cX4_takeImage 11 = .ok (.iconst 0, 1) := by decide +kernel
theorem dX4_takeImage_12 : decode cX4_takeImage 12 = .ok (.ireturn, 1) := by decide +kernel
theorem dX4_takeImage_13 : decode cX4_takeImage 13 = .ok (.aload_n 2, 1) := by decide +kernel
theorem dX4_takeImage_14 : decode cX4_takeImage 14 = .ok (.aload_n 0, 1) := by decide +kernel
theorem dX4_takeImage_15 : decode cX4_takeImage 15 = .ok (.getfield 17, 3) := by decide +kernel
theorem dX4_takeImage_18 : decode cX4_takeImage 18 = .ok (.iload_n 1, 1) := by decide +kernel
theorem dX4_takeImage_19 : decode cX4_takeImage 19 = .ok (.aaload, 1) := by decide +kernel
theorem dX4_takeImage_20 : decode cX4_takeImage 20 = .ok (.invokevirtual 37, 3) := by decide +kernel
theorem dX4_takeImage_23 : decode cX4_takeImage 23 = .ok (.aload_n 0, 1) := by decide +kernel
theorem dX4_takeImage_24 : decode cX4_takeImage 24 = .ok (.iconst 0, 1) := by decide +kernel
theorem dX4_takeImage_25 : decode cX4_takeImage 25 = .ok (.putfield 21, 3) := by decide +kernel
theorem dX4_takeImage_28 : decode cX4_takeImage 28 = .ok (.iconst 1, 1) := by decide +kernel
theorem dX4_takeImage_29 : decode cX4_takeImage 29 = .ok (.ireturn, 1) := by decide +kernel
theorem dX8_neediest_0 : decode cX8_neediest 0 = .ok (.iconst (-1), 1) := by decide +kernel
theorem dX8_neediest_1 : decode cX8_neediest 1 = .ok (.istore_n 3, 1) := by decide +kernel
theorem dX8_neediest_2 : decode cX8_neediest 2 = .ok (.iconst 0, 1) := by decide +kernel
theorem dX8_neediest_3 : decode cX8_neediest 3 = .ok (.istore 4, 2) := by decide +kernel
theorem dX8_neediest_5 : decode cX8_neediest 5 = .ok (.iconst 1, 1) := by decide +kernel
theorem dX8_neediest_6 : decode cX8_neediest 6 = .ok (.istore 5, 2) := by decide +kernel
theorem dX8_neediest_8 : decode cX8_neediest 8 = .ok (.iconst 0, 1) := by decide +kernel
theorem dX8_neediest_9 : decode cX8_neediest 9 = .ok (.istore 6, 2) := by decide +kernel
theorem dX8_neediest_11 : decode cX8_neediest 11 = .ok (.iload 6, 2) := by decide +kernel
theorem dX8_neediest_13 : decode cX8_neediest 13 = .ok (.bipush 6, 2) := by decide +kernel
theorem dX8_neediest_15 : decode cX8_neediest 15 = .ok (.if_icmp .ge 75, 3) := by decide +kernel
theorem dX8_neediest_18 : decode cX8_neediest 18 = .ok (.iload_n 2, 1) := by decide +kernel
theorem dX8_neediest_19 : decode cX8_neediest 19 = .ok (.iload 6, 2) := by decide +kernel
theorem dX8_neediest_21 : decode cX8_neediest 21 = .ok (.ishr, 1) := by decide +kernel
theorem dX8_neediest_22 : decode cX8_neediest 22 = .ok (.iconst 1, 1) := by decide +kernel
theorem dX8_neediest_23 : decode cX8_neediest 23 = .ok (.iand, 1) := by decide +kernel
theorem dX8_neediest_24 : decode cX8_neediest 24 = .ok (.iconst 1, 1) := by decide +kernel
theorem dX8_neediest_25 : decode cX8_neediest 25 = .ok (.if_icmp .ne 21, 3) := by decide +kernel
theorem dX8_neediest_28 : decode cX8_neediest 28 = .ok (.aload_n 0, 1) := by decide +kernel
theorem dX8_neediest_29 : decode cX8_neediest 29 = .ok (.getfield 18, 3) := by decide +kernel
theorem dX8_neediest_32 : decode cX8_neediest 32 = .ok (.getfield 48, 3) := by decide +kernel
theorem dX8_neediest_35 : decode cX8_neediest 35 = .ok (.iload_n 1, 1) := by decide +kernel
theorem dX8_neediest_36 : decode cX8_neediest 36 = .ok (.bipush 6, 2) := by decide +kernel
theorem dX8_neediest_38 : decode cX8_neediest 38 = .ok (.imul, 1) := by decide +kernel
theorem dX8_neediest_39 : decode cX8_neediest 39 = .ok (.iload 6, 2) := by decide +kernel
theorem dX8_neediest_41 : decode cX8_neediest 41 = .ok (.iadd, 1) := by decide +kernel
theorem dX8_neediest_42 : decode cX8_neediest 42 = .ok (.iaload, 1) := by decide +kernel
theorem dX8_neediest_43 : decode cX8_neediest 43 = .ok (.goto 4, 3) := by decide +kernel
theorem dX8_neediest_46 : decode cX8_neediest 46 = .ok (.iconst 0, 1) := by decide +kernel
theorem dX8_neediest_47 : decode cX8_neediest 47 = .ok (.istore 7, 2) := by decide +kernel
theorem dX8_neediest_49 : decode cX8_neediest 49 = .ok (.aload_n 0, 1) := by decide +kernel
theorem dX8_neediest_50 : decode cX8_neediest 50 = .ok (.getfield 15, 3) := by decide +kernel
theorem dX8_neediest_53 : decode cX8_neediest 53 = .ok (.iload 6, 2) := by decide +kernel
theorem dX8_neediest_55 : decode cX8_neediest 55 = .ok (.iaload, 1) := by decide +kernel
theorem dX8_neediest_56 : decode cX8_neediest 56 = .ok (.iconst 1, 1) := by decide +kernel
theorem dX8_neediest_57 : decode cX8_neediest 57 = .ok (.iadd, 1) := by decide +kernel
theorem dX8_neediest_58 : decode cX8_neediest 58 = .ok (.istore 8, 2) := by decide +kernel
theorem dX8_neediest_60 : decode cX8_neediest 60 = .ok (.iload 7, 2) := by decide +kernel
theorem dX8_neediest_62 : decode cX8_neediest 62 = .ok (.iload 5, 2) := by decide +kernel
theorem dX8_neediest_64 : decode cX8_neediest 64 = .ok (.imul, 1) := by decide +kernel
theorem dX8_neediest_65 : decode cX8_neediest 65 = .ok (.iload 4, 2) := by decide +kernel
theorem dX8_neediest_67 : decode cX8_neediest 67 = .ok (.iload 8, 2) := by decide +kernel
theorem dX8_neediest_69 : decode cX8_neediest 69 = .ok (.imul, 1) := by decide +kernel
theorem dX8_neediest_70 : decode cX8_neediest 70 = .ok (.if_icmp .le 14, 3) := by decide +kernel
theorem dX8_neediest_73 : decode cX8_neediest 73 = .ok (.iload 6, 2) := by decide +kernel
theorem dX8_neediest_75 : decode cX8_neediest 75 = .ok (.istore_n 3, 1) := by decide +kernel
theorem dX8_neediest_76 : decode cX8_neediest 76 = .ok (.iload 7, 2) := by decide +kernel
theorem dX8_neediest_78 : decode cX8_neediest 78 = .ok (.istore 4, 2) := by decide +kernel
theorem dX8_neediest_80 : decode cX8_neediest 80 = .ok (.iload 8, 2) := by decide +kernel
theorem dX8_neediest_82 : decode cX8_neediest 82 = .ok (.istore 5, 2) := by decide +kernel
theorem dX8_neediest_84 : decode cX8_neediest 84 = .ok (.iinc 6 1, 3) := by decide +kernel
theorem dX8_neediest_87 : decode cX8_neediest 87 = .ok (.goto (-76), 3) := by decide +kernel
theorem dX8_neediest_90 : decode cX8_neediest 90 = .ok (.iload_n 3, 1) := by decide +kernel
theorem dX8_neediest_91 : decode cX8_neediest 91 = .ok (.ireturn, 1) := by decide +kernel
theorem dX8_lay_0 : decode cX8_lay 0 = .ok (.aload_n 0, 1) := by decide +kernel
theorem dX8_lay_1 : decode cX8_lay 1 = .ok (.getfield 18, 3) := by decide +kernel
theorem dX8_lay_4 : decode cX8_lay 4 = .ok (.getfield 26, 3) := by decide +kernel
theorem dX8_lay_7 : decode cX8_lay 7 = .ok (.iload_n 1, 1) := by decide +kernel
theorem dX8_lay_8 : decode cX8_lay 8 = .ok (.iaload, 1) := by decide +kernel
theorem dX8_lay_9 : decode cX8_lay 9 = .ok (.aload_n 0, 1) := by decide +kernel
theorem dX8_lay_10 : decode cX8_lay 10 = .ok (.getfield 22, 3) := by decide +kernel
theorem dX8_lay_13 : decode cX8_lay 13 = .ok (.getfield 31, 3) := by decide +kernel
theorem dX8_lay_16 : decode cX8_lay 16 = .ok (.iand, 1) := by decide +kernel
theorem dX8_lay_17 : decode cX8_lay 17 = .ok (.aload_n 0, 1) := by decide +kernel
theorem dX8_lay_18 : decode cX8_lay 18 = .ok (.getfield 22, 3) := by decide +kernel
theorem dX8_lay_21 : decode cX8_lay 21 = .ok (.iload_n 2, 1) := by decide +kernel
theorem dX8_lay_22 : decode cX8_lay 22 = .ok (.invokevirtual 37, 3) := by decide +kernel
theorem dX8_lay_25 : decode cX8_lay 25 = .ok (.iand, 1) := by decide +kernel
theorem dX8_lay_26 : decode cX8_lay 26 = .ok (.istore_n 3, 1) := by decide +kernel
theorem dX8_lay_27 : decode cX8_lay 27 = .ok (.iconst 0, 1) := by decide +kernel
theorem dX8_lay_28 : decode cX8_lay 28 = .ok (.istore 4, 2) := by decide +kernel
theorem dX8_lay_30 : decode cX8_lay 30 = .ok (.iload 4, 2) := by decide +kernel
theorem dX8_lay_32 : decode cX8_lay 32 = .ok (.bipush 6, 2) := by decide +kernel
theorem dX8_lay_34 : decode cX8_lay 34 = .ok (.if_icmp .ge 17, 3) := by decide +kernel
theorem dX8_lay_37 : decode cX8_lay 37 = .ok (.aload_n 0, 1) := by decide +kernel
theorem dX8_lay_38 : decode cX8_lay 38 = .ok (.getfield 15, 3) := by decide +kernel
theorem dX8_lay_41 : decode cX8_lay 41 = .ok (.iload 4, 2) := by decide +kernel
theorem dX8_lay_43 : decode cX8_lay 43 = .ok (.iconst 0, 1) := by decide +kernel
theorem dX8_lay_44 : decode cX8_lay 44 = .ok (.iastore, 1) := by decide +kernel
theorem dX8_lay_45 : decode cX8_lay 45 = .ok (.iinc 4 1, 3) := by decide +kernel
theorem dX8_lay_48 : decode cX8_lay 48 = .ok (.goto (-18), 3) := by decide +kernel
theorem dX8_lay_51 : decode cX8_lay 51 = .ok (.iconst 0, 1) := by decide +kernel
theorem dX8_lay_52 : decode cX8_lay 52 = .ok (.istore 4, 2) := by decide +kernel
theorem dX8_lay_54 : decode cX8_lay 54 = .ok (.iload 4, 2) := by decide +kernel
theorem dX8_lay_56 : decode cX8_lay 56 = .ok (.bipush 8, 2) := by decide +kernel
theorem dX8_lay_58 : decode cX8_lay 58 = .ok (.if_icmp .ge 61, 3) := by decide +kernel
theorem dX8_lay_61 : decode cX8_lay 61 = .ok (.iload 4, 2) := by decide +kernel
theorem dX8_lay_63 : decode cX8_lay 63 = .ok (.aload_n 0, 1) := by decide +kernel
theorem dX8_lay_64 : decode cX8_lay 64 = .ok (.getfield 18, 3) := by decide +kernel
theorem dX8_lay_67 : decode cX8_lay 67 = .ok (.getfield 41, 3) := by decide +kernel
theorem dX8_lay_70 : decode cX8_lay 70 = .ok (.iload_n 1, 1) := by decide +kernel
theorem dX8_lay_71 : decode cX8_lay 71 = .ok (.iaload, 1) := by decide +kernel
theorem dX8_lay_72 : decode cX8_lay 72 = .ok (.if_icmp .ge 12, 3) := by decide +kernel
theorem dX8_lay_75 : decode cX8_lay 75 = .ok (.aload_n 0, 1) := by decide +kernel
theorem dX8_lay_76 : decode cX8_lay 76 = .ok (.iload_n 1, 1) := by decide +kernel
theorem dX8_lay_77 : decode cX8_lay 77 = .ok (.iload_n 3, 1) := by decide +kernel
theorem dX8_lay_78 : decode cX8_lay 78 = .ok (.invokevirtual 44, 3) := by decide +kernel
theorem dX8_lay_81 : decode cX8_lay 81 = .ok (.goto 4, 3) := by decide +kernel
theorem dX8_lay_84 : decode cX8_lay 84 = .ok (.iconst (-1), 1) := by decide +kernel
theorem dX8_lay_85 : decode cX8_lay 85 = .ok (.istore 5, 2) := by decide +kernel
theorem dX8_lay_87 : decode cX8_lay 87 = .ok (.aload_n 0, 1) := by decide +kernel
theorem dX8_lay_88 : decode cX8_lay 88 = .ok (.getfield 9, 3) := by decide +kernel
theorem dX8_lay_91 : decode cX8_lay 91 = .ok (.iload 4, 2) := by decide +kernel
theorem dX8_lay_93 : decode cX8_lay 93 = .ok (.iload 5, 2) := by decide +kernel
theorem dX8_lay_95 : decode cX8_lay 95 = .ok (.iastore, 1) := by decide +kernel
theorem dX8_lay_96 : decode cX8_lay 96 = .ok (.iload 5, 2) := by decide +kernel
theorem dX8_lay_98 : decode cX8_lay 98 = .ok (.iconst (-1), 1) := by decide +kernel
theorem dX8_lay_99 : decode cX8_lay 99 = .ok (.if_icmp .eq 14, 3) := by decide +kernel
theorem dX8_lay_102 : decode cX8_lay 102 = .ok (.aload_n 0, 1) := by decide +kernel
theorem dX8_lay_103 : decode cX8_lay 103 = .ok (.getfield 15, 3) := by decide +kernel
theorem dX8_lay_106 : decode cX8_lay 106 = .ok (.iload 5, 2) := by decide +kernel
theorem dX8_lay_108 : decode cX8_lay 108 = .ok (.dup2, 1) := by decide +kernel
theorem dX8_lay_109 : decode cX8_lay 109 = .ok (.iaload, 1) := by decide +kernel
theorem dX8_lay_110 : decode cX8_lay 110 = .ok (.iconst 1, 1) := by decide +kernel
theorem dX8_lay_111 : decode cX8_lay 111 = .ok (.iadd, 1) := by decide +kernel
theorem dX8_lay_112 : decode cX8_lay 112 = .ok (.iastore, 1) := by decide +kernel
theorem dX8_lay_113 : decode cX8_lay 113 = .ok (.iinc 4 1, 3) := by decide +kernel
theorem dX8_lay_116 : decode cX8_lay 116 = .ok (.goto (-62), 3) := by decide +kernel
theorem dX8_lay_119 : decode cX8_lay 119 = .ok (.return_, 1) := by decide +kernel
theorem dX8_ownerOf_0 : decode cX8_ownerOf 0 = .ok (.iload_n 1, 1) := by decide +kernel
theorem dX8_ownerOf_1 : decode cX8_ownerOf 1 = .ok (.ifCond .lt 18, 3) := by decide +kernel
theorem dX8_ownerOf_4 : decode cX8_ownerOf 4 = .ok (.iload_n 1, 1) := by decide +kernel
theorem dX8_ownerOf_5 : decode cX8_ownerOf 5 = .ok (.bipush 8, 2) := by decide +kernel
theorem dX8_ownerOf_7 : decode cX8_ownerOf 7 = .ok (.if_icmp .ge 12, 3) := by decide +kernel
theorem dX8_ownerOf_10 : decode cX8_ownerOf 10 = .ok (.aload_n 0, 1) := by decide +kernel
theorem dX8_ownerOf_11 : decode cX8_ownerOf 11 = .ok (.getfield 9, 3) := by decide +kernel
theorem dX8_ownerOf_14 : decode cX8_ownerOf 14 = .ok (.iload_n 1, 1) := by decide +kernel
theorem dX8_ownerOf_15 : decode cX8_ownerOf 15 = .ok (.iaload, 1) := by decide +kernel
theorem dX8_ownerOf_16 : decode cX8_ownerOf 16 = .ok (.goto 4, 3) := by decide +kernel
theorem dX8_ownerOf_19 : decode cX8_ownerOf 19 = .ok (.iconst (-1), 1) := by decide +kernel
theorem dX8_ownerOf_20 : decode cX8_ownerOf 20 = .ok (.ireturn, 1) := by decide +kernel
theorem dX8_countHosts_0 : decode cX8_countHosts 0 = .ok (.aload_n 0, 1) := by decide +kernel
theorem dX8_countHosts_1 : decode cX8_countHosts 1 = .ok (.getfield 18, 3) := by decide +kernel
theorem dX8_countHosts_4 : decode cX8_countHosts 4 = .ok (.getfield 41, 3) := by decide +kernel
theorem dX8_countHosts_7 : decode cX8_countHosts 7 = .ok (.iload_n 1, 1) := by decide +kernel
theorem dX8_countHosts_8 : decode cX8_countHosts 8 = .ok (.iaload, 1) := by decide +kernel
theorem dX8_countHosts_9 : decode cX8_countHosts 9 = .ok (.istore 4, 2) := by decide +kernel
theorem dX8_countHosts_11 : decode cX8_countHosts 11 = .ok (.iload 4, 2) := by decide +kernel
theorem dX8_countHosts_13 : decode cX8_countHosts 13 = .ok (.iconst 1, 1) := by decide +kernel
theorem dX8_countHosts_14 : decode cX8_countHosts 14 = .ok (.if_icmp .ge 5, 3) := by decide +kernel
theorem dX8_countHosts_17 : decode cX8_countHosts 17 = .ok (.iconst 0, 1) := by decide +kernel
theorem dX8_countHosts_18 : decode cX8_countHosts 18 = .ok (.ireturn, 1) := by decide +kernel
theorem dX8_countHosts_19 : decode cX8_countHosts 19 = .ok (.iconst 0, 1) := by decide +kernel
theorem dX8_countHosts_20 : decode cX8_countHosts 20 = .ok (.istore 5, 2) := by decide +kernel
theorem dX8_countHosts_22 : decode cX8_countHosts 22 = .ok (.iconst 0, 1) := by decide +kernel
theorem dX8_countHosts_23 : decode cX8_countHosts 23 = .ok (.istore 6, 2) := by decide +kernel
theorem dX8_countHosts_25 : decode cX8_countHosts 25 = .ok (.iload 6, 2) := by decide +kernel
theorem dX8_countHosts_27 : decode cX8_countHosts 27 = .ok (.iload 4, 2) := by decide +kernel
theorem dX8_countHosts_29 : decode cX8_countHosts 29 = .ok (.if_icmp .ge 51, 3) := by decide +kernel
theorem dX8_countHosts_32 : decode cX8_countHosts 32 = .ok (.iload 6, 2) := by decide +kernel
theorem dX8_countHosts_34 : decode cX8_countHosts 34 = .ok (.bipush 8, 2) := by decide +kernel
theorem dX8_countHosts_36 : decode cX8_countHosts 36 = .ok (.if_icmp .ge 44, 3) := by decide +kernel
theorem dX8_countHosts_39 : decode cX8_countHosts 39 = .ok (.aload_n 0, 1) := by decide +kernel
theorem dX8_countHosts_40 : decode cX8_countHosts 40 = .ok (.getfield 9, 3) := by decide +kernel
theorem dX8_countHosts_43 : decode cX8_countHosts 43 = .ok (.iload 6, 2) := by decide +kernel
theorem dX8_countHosts_45 : decode cX8_countHosts 45 = .ok (.iaload, 1) := by decide +kernel
theorem dX8_countHosts_46 : decode cX8_countHosts 46 = .ok (.iload_n 2, 1) := by decide +kernel
theorem dX8_countHosts_47 : decode cX8_countHosts 47 = .ok (.if_icmp .ne 27, 3) := by decide +kernel
theorem dX8_countHosts_50 : decode cX8_countHosts 50 = .ok (.iload 5, 2) := by decide +kernel
theorem dX8_countHosts_52 : decode cX8_countHosts 52 = .ok (.iload_n 3, 1) := by decide +kernel
theorem dX8_countHosts_53 : decode cX8_countHosts 53 = .ok (.iload 4, 2) := by decide +kernel
theorem dX8_countHosts_55 : decode cX8_countHosts 55 = .ok (.idiv, 1) := by decide +kernel
theorem dX8_countHosts_56 : decode cX8_countHosts 56 = .ok (.iload 6, 2) := by decide +kernel
theorem dX8_countHosts_58 : decode cX8_countHosts 58 = .ok (.iload_n 3, 1) := by decide +kernel
theorem dX8_countHosts_59 : decode cX8_countHosts 59 = .ok (.iload 4, 2) := by decide +kernel
theorem dX8_countHosts_61 : decode cX8_countHosts 61 = .ok (.irem, 1) := by decide +kernel
theorem dX8_countHosts_62 : decode cX8_countHosts 62 = .ok (.if_icmp .ge 7, 3) := by decide +kernel
theorem dX8_countHosts_65 : decode cX8_countHosts 65 = .ok (.iconst 1, 1) := by decide +kernel
theorem dX8_countHosts_66 : decode cX8_countHosts 66 = .ok (.goto 4, 3) := by decide +kernel
theorem dX8_countHosts_69 : decode cX8_countHosts 69 = .ok (.iconst 0, 1) := by decide +kernel
theorem dX8_countHosts_70 : decode cX8_countHosts 70 = .ok (.iadd, 1) := by decide +kernel
theorem dX8_countHosts_71 : decode cX8_countHosts 71 = .ok (.iadd, 1) := by decide +kernel
theorem dX8_countHosts_72 : decode cX8_countHosts 72 = .ok (.istore 5, 2) := by decide +kernel
theorem dX8_countHosts_74 : decode cX8_countHosts 74 = .ok (.iinc 6 1, 3) := by decide +kernel
theorem dX8_countHosts_77 : decode cX8_countHosts 77 = .ok (.goto (-52), 3) := by decide +kernel
theorem dX8_countHosts_80 : decode cX8_countHosts 80 = .ok (.iload 5, 2) := by decide +kernel
theorem dX8_countHosts_82 : decode cX8_countHosts 82 = .ok (.ireturn, 1) := by decide +kernel
