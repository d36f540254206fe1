theorem dX10_runAllGroups_0 : decode cX10_runAllGroups 0 = .ok (.aload_n 0, 1) := by decide +kernel
theorem dX10_runAllGroups_1 : decode cX10_runAllGroups 1 = .ok (.iconst 0, 1) := by decide +kernel
theorem dX10_runAllGroups_2 : decode cX10_runAllGroups 2 = .ok (.putfield 19, 3) := by decide +kernel
theorem dX10_runAllGroups_5 : decode cX10_runAllGroups 5 = .ok (.aload_n 0, 1) := by decide +kernel
theorem dX10_runAllGroups_6 : decode cX10_runAllGroups 6 = .ok (.aload_n 0, 1) := by decide +kernel
theorem dX10_runAllGroups_7 : decode cX10_runAllGroups 7 = .ok (.getfield 9, 3) := by decide +kernel
theorem dX10_runAllGroups_10 : decode cX10_runAllGroups 10 = .ok (.getfield 23, 3) := by decide +kernel
theorem dX10_runAllGroups_13 : decode cX10_runAllGroups 13 = .ok (.iconst 2, 1) := by decide +kernel
theorem dX10_runAllGroups_14 : decode cX10_runAllGroups 14 = .ok (.iaload, 1) := by decide +kernel
theorem dX10_runAllGroups_15 : decode cX10_runAllGroups 15 = .ok (.iconst 1, 1) := by decide +kernel
theorem dX10_runAllGroups_16 : decode cX10_runAllGroups 16 = .ok (.isub, 1) := by decide +kernel
theorem dX10_runAllGroups_17 : decode cX10_runAllGroups 17 = .ok (.putfield 29, 3) := by decide +kernel
theorem dX10_runAllGroups_20 : decode cX10_runAllGroups 20 = .ok (.return_, 1) := by decide +kernel
theorem dX10_runOneGroup_0 : decode cX10_runOneGroup 0 = .ok (.aload_n 0, 1) := by decide +kernel
theorem dX10_runOneGroup_1 : decode cX10_runOneGroup 1 = .ok (.iload_n 1, 1) := by decide +kernel
theorem dX10_runOneGroup_2 : decode cX10_runOneGroup 2 = .ok (.putfield 19, 3) := by decide +kernel
theorem dX10_runOneGroup_5 : decode cX10_runOneGroup 5 = .ok (.aload_n 0, 1) := by decide +kernel
theorem dX10_runOneGroup_6 : decode cX10_runOneGroup 6 = .ok (.iload_n 1, 1) := by decide +kernel
theorem dX10_runOneGroup_7 : decode cX10_runOneGroup 7 = .ok (.putfield 29, 3) := by decide +kernel
theorem dX10_runOneGroup_10 : decode cX10_runOneGroup 10 = .ok (.return_, 1) := by decide +kernel
theorem dX10_quietTicks_0 : decode cX10_quietTicks 0 = .ok (.iload_n 1, 1) := by decide +kernel
theorem dX10_quietTicks_1 : decode cX10_quietTicks 1 = .ok (.istore_n 2, 1) := by decide +kernel
theorem dX10_quietTicks_2 : decode cX10_quietTicks 2 = .ok (.aload_n 0, 1) := by decide +kernel
theorem dX10_quietTicks_3 : decode cX10_quietTicks 3 = .ok (.getfield 15, 3) := by decide +kernel
theorem dX10_quietTicks_6 : decode cX10_quietTicks 6 = .ok (.getfield 167, 3) := by decide +kernel
theorem dX10_quietTicks_9 : decode cX10_quietTicks 9 = .ok (.aload_n 0, 1) := by decide +kernel
theorem dX10_quietTicks_10 : decode cX10_quietTicks 10 = .ok (.getfield 15, 3) := by decide +kernel
theorem dX10_quietTicks_13 : decode cX10_quietTicks 13 = .ok (.getfield 170, 3) := by decide +kernel
theorem dX10_quietTicks_16 : decode cX10_quietTicks 16 = .ok (.getfield 174, 3) := by decide +kernel
theorem dX10_quietTicks_19 : decode cX10_quietTicks 19 = .ok (.if_icmp .ge 33, 3) := by decide +kernel
theorem dX10_quietTicks_22 : decode cX10_quietTicks 22 = .ok (.iload_n 2, 1) := by decide +kernel
theorem dX10_quietTicks_23 : decode cX10_quietTicks 23 = .ok (.aload_n 0, 1) := by decide +kernel
theorem dX10_quietTicks_24 : decode cX10_quietTicks 24 = .ok (.getfield 15, 3) := by decide +kernel
theorem dX10_quietTicks_27 : decode cX10_quietTicks 27 = .ok (.getfield 170, 3) := by decide +kernel
theorem dX10_quietTicks_30 : decode cX10_quietTicks 30 = .ok (.aload_n 0, 1) := by decide +kernel
theorem dX10_quietTicks_31 : decode cX10_quietTicks 31 = .ok (.getfield 15, 3) := by decide +kernel
theorem dX10_quietTicks_34 : decode cX10_quietTicks 34 = .ok (.getfield 167, 3) := by decide +kernel
theorem dX10_quietTicks_37 : decode cX10_quietTicks 37 = .ok (.invokevirtual 179, 3) := by decide +kernel
theorem dX10_quietTicks_40 : decode cX10_quietTicks 40 = .ok (.aload_n 0, 1) := by decide +kernel
theorem dX10_quietTicks_41 : decode cX10_quietTicks 41 = .ok (.getfield 15, 3) := by decide +kernel
theorem dX10_quietTicks_44 : decode cX10_quietTicks 44 = .ok (.getfield 100, 3) := by decide +kernel
theorem dX10_quietTicks_47 : decode cX10_quietTicks 47 = .ok (.isub, 1) := by decide +kernel
theorem dX10_quietTicks_48 : decode cX10_quietTicks 48 = .ok (.invokestatic 131, 3) := by decide +kernel
theorem dX10_quietTicks_51 : decode cX10_quietTicks 51 = .ok (.istore_n 2, 1) := by decide +kernel
theorem dX10_quietTicks_52 : decode cX10_quietTicks 52 = .ok (.aload_n 0, 1) := by decide +kernel
theorem dX10_quietTicks_53 : decode cX10_quietTicks 53 = .ok (.getfield 19, 3) := by decide +kernel
theorem dX10_quietTicks_56 : decode cX10_quietTicks 56 = .ok (.istore_n 3, 1) := by decide +kernel
theorem dX10_quietTicks_57 : decode cX10_quietTicks 57 = .ok (.iload_n 3, 1) := by decide +kernel
theorem dX10_quietTicks_58 : decode cX10_quietTicks 58 = .ok (.aload_n 0, 1) := by decide +kernel
theorem dX10_quietTicks_59 : decode cX10_quietTicks 59 = .ok (.getfield 29, 3) := by decide +kernel
theorem dX10_quietTicks_62 : decode cX10_quietTicks 62 = .ok (.if_icmp .gt 79, 3) := by decide +kernel
theorem dX10_quietTicks_65 : decode cX10_quietTicks 65 = .ok (.iload_n 2, 1) := by decide +kernel
theorem dX10_quietTicks_66 : decode cX10_quietTicks 66 = .ok (.ifCond .le 75, 3) := by decide +kernel
theorem dX10_quietTicks_69 : decode cX10_quietTicks 69 = .ok (.aload_n 0, 1) := by decide +kernel
theorem dX10_quietTicks_70 : decode cX10_quietTicks 70 = .ok (.getfield 9, 3) := by decide +kernel
theorem dX10_quietTicks_73 : decode cX10_quietTicks 73 = .ok (.getfield 80, 3) := by decide +kernel
theorem dX10_quietTicks_76 : decode cX10_quietTicks 76 = .ok (.iload_n 3, 1) := by decide +kernel
theorem dX10_quietTicks_77 : decode cX10_quietTicks 77 = .ok (.iaload, 1) := by decide +kernel
theorem dX10_quietTicks_78 : decode cX10_quietTicks 78 = .ok (.aload_n 0, 1) := by decide +kernel
theorem dX10_quietTicks_79 : decode cX10_quietTicks 79 = .ok (.getfield 15, 3) := by decide +kernel
theorem dX10_quietTicks_82 : decode cX10_quietTicks 82 = .ok (.getfield 77, 3) := by decide +kernel
theorem dX10_quietTicks_85 : decode cX10_quietTicks 85 = .ok (.iand, 1) := by decide +kernel
theorem dX10_quietTicks_86 : decode cX10_quietTicks 86 = .ok (.istore 4, 2) := by decide +kernel
theorem dX10_quietTicks_88 : decode cX10_quietTicks 88 = .ok (.iconst 0, 1) := by decide +kernel
theorem dX10_quietTicks_89 : decode cX10_quietTicks 89 = .ok (.istore 5, 2) := by decide +kernel
theorem dX10_quietTicks_91 : decode cX10_quietTicks 91 = .ok (.iload 5, 2) := by decide +kernel
theorem dX10_quietTicks_93 : decode cX10_quietTicks 93 = .ok (.bipush 6, 2) := by decide +kernel
theorem dX10_quietTicks_95 : decode cX10_quietTicks 95 = .ok (.if_icmp .ge 40, 3) := by decide +kernel
theorem dX10_quietTicks_98 : decode cX10_quietTicks 98 = .ok (.iload 4, 2) := by decide +kernel
theorem dX10_quietTicks_100 : decode cX10_quietTicks 100 = .ok (.iload 5, 2) := by decide +kernel
theorem dX10_quietTicks_102 : decode cX10_quietTicks 102 = .ok (.ishr, 1) := by decide +kernel
theorem dX10_quietTicks_103 : decode cX10_quietTicks 103 = .ok (.iconst 1, 1) := by decide +kernel
theorem dX10_quietTicks_104 : decode cX10_quietTicks 104 = .ok (.iand, 1) := by decide +kernel
theorem dX10_quietTicks_105 : decode cX10_quietTicks 105 = .ok (.iconst 1, 1) := by decide +kernel
theorem dX10_quietTicks_106 : decode cX10_quietTicks 106 = .ok (.if_icmp .ne 23, 3) := by decide +kernel
theorem dX10_quietTicks_109 : decode cX10_quietTicks 109 = .ok (.iload_n 2, 1) := by decide +kernel
theorem dX10_quietTicks_110 : decode cX10_quietTicks 110 = .ok (.aload_n 0, 1) := by decide +kernel
theorem dX10_quietTicks_111 : decode cX10_quietTicks 111 = .ok (.getfield 15, 3) := by decide +kernel
theorem dX10_quietTicks_114 : decode cX10_quietTicks 114 = .ok (.getfield 112, 3) := by decide +kernel
theorem dX10_quietTicks_117 : decode cX10_quietTicks 117 = .ok (.iload_n 3, 1) := by decide +kernel
theorem dX10_quietTicks_118 : decode cX10_quietTicks 118 = .ok (.bipush 6, 2) := by decide +kernel
theorem dX10_quietTicks_120 : decode cX10_quietTicks 120 = .ok (.imul, 1) := by decide +kernel
theorem dX10_quietTicks_121 : decode cX10_quietTicks 121 = .ok (.iload 5, 2) := by decide +kernel
theorem dX10_quietTicks_123 : decode cX10_quietTicks 123 = .ok (.iadd, 1) := by decide +kernel
theorem dX10_quietTicks_124 : decode cX10_quietTicks 124 = .ok (.iaload, 1) := by decide +kernel
theorem dX10_quietTicks_125 : decode cX10_quietTicks 125 = .ok (.invokestatic 131, 3) := by decide +kernel
theorem dX10_quietTicks_128 : decode cX10_quietTicks 128 = .ok (.istore_n 2, 1) := by decide +kernel
theorem dX10_quietTicks_129 : decode cX10_quietTicks 129 = .ok (.iinc 5 1, 3) := by decide +kernel
theorem dX10_quietTicks_132 : decode cX10_quietTicks 132 = .ok (.goto (-41), 3) := by decide +kernel
theorem dX10_quietTicks_135 : decode cX10_quietTicks 135 = .ok (.iinc 3 1, 3) := by decide +kernel
theorem dX10_quietTicks_138 : decode cX10_quietTicks 138 = .ok (.goto (-81), 3) := by decide +kernel
theorem dX10_quietTicks_141 : decode cX10_quietTicks 141 = .ok (.iload_n 2, 1) := by decide +kernel
theorem dX10_quietTicks_142 : decode cX10_quietTicks 142 = .ok (.ireturn, 1) := by decide +kernel
theorem dX10_wind_0 : decode cX10_wind 0 = .ok (.aload_n 0, 1) := by decide +kernel
theorem dX10_wind_1 : decode cX10_wind 1 = .ok (.getfield 9, 3) := by decide +kernel
theorem dX10_wind_4 : decode cX10_wind 4 = .ok (.getfield 80, 3) := by decide +kernel
theorem dX10_wind_7 : decode cX10_wind 7 = .ok (.iload_n 1, 1) := by decide +kernel
theorem dX10_wind_8 : decode cX10_wind 8 = .ok (.iaload, 1) := by decide +kernel
theorem dX10_wind_9 : decode cX10_wind 9 = .ok (.aload_n 0, 1) := by decide +kernel
theorem dX10_wind_10 : decode cX10_wind 10 = .ok (.getfield 15, 3) := by decide +kernel
theorem dX10_wind_13 : decode cX10_wind 13 = .ok (.getfield 77, 3) := by decide +kernel
theorem dX10_wind_16 : decode cX10_wind 16 = .ok (.iand, 1) := by decide +kernel
theorem dX10_wind_17 : decode cX10_wind 17 = .ok (.istore_n 3, 1) := by decide +kernel
theorem dX10_wind_18 : decode cX10_wind 18 = .ok (.iconst 0, 1) := by decide +kernel
theorem dX10_wind_19 : decode cX10_wind 19 = .ok (.istore 4, 2) := by decide +kernel
theorem dX10_wind_21 : decode cX10_wind 21 = .ok (.iload 4, 2) := by decide +kernel
theorem dX10_wind_23 : decode cX10_wind 23 = .ok (.bipush 6, 2) := by decide +kernel
theorem dX10_wind_25 : decode cX10_wind 25 = .ok (.if_icmp .ge 38, 3) := by decide +kernel
theorem dX10_wind_28 : decode cX10_wind 28 = .ok (.iload_n 3, 1) := by decide +kernel
theorem dX10_wind_29 : decode cX10_wind 29 = .ok (.iload 4, 2) := by decide +kernel
theorem dX10_wind_31 : decode cX10_wind 31 = .ok (.ishr, 1) := by decide +kernel
theorem dX10_wind_32 : decode cX10_wind 32 = .ok (.iconst 1, 1) := by decide +kernel
theorem dX10_wind_33 : decode cX10_wind 33 = .ok (.iand, 1) := by decide +kernel
theorem dX10_wind_34 : decode cX10_wind 34 = .ok (.iconst 1, 1) := by decide +kernel
theorem dX10_wind_35 : decode cX10_wind 35 = .ok (.if_icmp .ne 22, 3) := by decide +kernel
theorem dX10_wind_38 : decode cX10_wind 38 = .ok (.aload_n 0, 1) := by decide +kernel
theorem dX10_wind_39 : decode cX10_wind 39 = .ok (.getfield 15, 3) := by decide +kernel
theorem dX10_wind_42 : decode cX10_wind 42 = .ok (.getfield 112, 3) := by decide +kernel
theorem dX10_wind_45 : decode cX10_wind 45 = .ok (.iload_n 1, 1) := by decide +kernel
theorem dX10_wind_46 : decode cX10_wind 46 = .ok (.bipush 6, 2) := by decide +kernel
theorem dX10_wind_48 : decode cX10_wind 48 = .ok (.imul, 1) := by decide +kernel
theorem dX10_wind_49 : decode cX10_wind 49 = .ok (.iload 4, 2) := by decide +kernel
theorem dX10_wind_51 : decode cX10_wind 51 = .ok (.iadd, 1) := by decide +kernel
theorem dX10_wind_52 : decode cX10_wind 52 = .ok (.dup2, 1) := by decide +kernel
theorem dX10_wind_53 : decode cX10_wind 53 = .ok (.iaload, 1) := by decide +kernel
theorem dX10_wind_54 : decode cX10_wind 54 = .ok (.iload_n 2, 1) := by decide +kernel
theorem dX10_wind_55 : decode cX10_wind 55 = .ok (.isub, 1) := by decide +kernel
theorem dX10_wind_56 : decode cX10_wind 56 = .ok (.iastore, 1) := by decide +kernel
theorem dX10_wind_57 : decode cX10_wind 57 = .ok (.iinc 4 1, 3) := by decide +kernel
theorem dX10_wind_60 : decode cX10_wind 60 = .ok (.goto (-39), 3) := by decide +kernel
theorem dX10_wind_63 : decode cX10_wind 63 = .ok (.return_, 1) := by decide +kernel
theorem dX10_tally_0 : decode cX10_tally 0 = .ok (.aload_n 0, 1) := by decide +kernel
theorem dX10_tally_1 : decode cX10_tally 1 = .ok (.getfield 15, 3) := by decide +kernel
theorem dX10_tally_4 : decode cX10_tally 4 = .ok (.getfield 93, 3) := by decide +kernel
theorem dX10_tally_7 : decode cX10_tally 7 = .ok (.iload_n 1, 1) := by decide +kernel
theorem dX10_tally_8 : decode cX10_tally 8 = .ok (.iaload, 1) := by decide +kernel
theorem dX10_tally_9 : decode cX10_tally 9 = .ok (.ifCond .ne 53, 3) := by decide +kernel
theorem dX10_tally_12 : decode cX10_tally 12 = .ok (.aload_n 0, 1) := by decide +kernel
theorem dX10_tally_13 : decode cX10_tally 13 = .ok (.getfield 9, 3) := by decide +kernel
theorem dX10_tally_16 : decode cX10_tally 16 = .ok (.getfield 80, 3) := by decide +kernel
theorem dX10_tally_19 : decode cX10_tally 19 = .ok (.iload_n 1, 1) := by decide +kernel
theorem dX10_tally_20 : decode cX10_tally 20 = .ok (.iaload, 1) := by decide +kernel
theorem dX10_tally_21 : decode cX10_tally 21 = .ok (.aload_n 0, 1) := by decide +kernel
theorem dX10_tally_22 : decode cX10_tally 22 = .ok (.getfield 15, 3) := by decide +kernel
theorem dX10_tally_25 : decode cX10_tally 25 = .ok (.getfield 77, 3) := by decide +kernel
theorem dX10_tally_28 : decode cX10_tally 28 = .ok (.iand, 1) := by decide +kernel
theorem dX10_tally_29 : decode cX10_tally 29 = .ok (.ifCond .eq 7, 3) := by decide +kernel
theorem dX10_tally_32 : decode cX10_tally 32 = .ok (.iconst 1, 1) := by decide +kernel
theorem dX10_tally_33 : decode cX10_tally 33 = .ok (.goto 4, 3) := by decide +kernel
theorem dX10_tally_36 : decode cX10_tally 36 = .ok (.iconst 0, 1) := by decide +kernel
theorem dX10_tally_37 : decode cX10_tally 37 = .ok (.istore_n 3, 1) := by decide +kernel
theorem dX10_tally_38 : decode cX10_tally 38 = .ok (.aload_n 0, 1) := by decide +kernel
theorem dX10_tally_39 : decode cX10_tally 39 = .ok (.getfield 15, 3) := by decide +kernel
theorem dX10_tally_42 : decode cX10_tally 42 = .ok (.getfield 227, 3) := by decide +kernel
theorem dX10_tally_45 : decode cX10_tally 45 = .ok (.iload_n 1, 1) := by decide +kernel
theorem dX10_tally_46 : decode cX10_tally 46 = .ok (.dup2, 1) := by decide +kernel
theorem dX10_tally_47 : decode cX10_tally 47 = .ok (.iaload, 1) := by decide +kernel
theorem dX10_tally_48 : decode cX10_tally 48 = .ok (.iload_n 3, 1) := by decide +kernel
theorem dX10_tally_49 : decode cX10_tally 49 = .ok (.ifCond .eq 7, 3) := by decide +kernel
theorem dX10_tally_52 : decode cX10_tally 52 = .ok (.iload_n 2, 1) := by decide +kernel
theorem dX10_tally_53 : decode cX10_tally 53 = .ok (.goto 4, 3) := by decide +kernel
theorem dX10_tally_56 : decode cX10_tally 56 = .ok (.iconst 0, 1) := by decide +kernel
theorem dX10_tally_57 : decode cX10_tally 57 = .ok (.iadd, 1) := by decide +kernel
theorem dX10_tally_58 : decode cX10_tally 58 = .ok (.iastore, 1) := by decide +kernel
theorem dX10_tally_59 : decode cX10_tally 59 = .ok (.goto 27, 3) := by decide +kernel
theorem dX10_tally_62 : decode cX10_tally 62 = .ok (.aload_n 0, 1) := by decide +kernel
theorem dX10_tally_63 : decode cX10_tally 63 = .ok (.getfield 15, 3) := by decide +kernel
theorem dX10_tally_66 : decode cX10_tally 66 = .ok (.iload_n 1, 1) := by decide +kernel
theorem dX10_tally_67 : decode cX10_tally 67 = .ok (.invokevirtual 230, 3) := by decide +kernel
theorem dX10_tally_70 : decode cX10_tally 70 = .ok (.ifCond .eq 16, 3) := by decide +kernel
theorem dX10_tally_73 : decode cX10_tally 73 = .ok (.aload_n 0, 1) := by decide +kernel
theorem dX10_tally_74 : decode cX10_tally 74 = .ok (.getfield 15, 3) := by decide +kernel
theorem dX10_tally_77 : decode cX10_tally 77 = .ok (.getfield 234, 3) := by decide +kernel
theorem dX10_tally_80 : decode cX10_tally 80 = .ok (.iload_n 1, 1) := by decide +kernel
theorem dX10_tally_81 : decode cX10_tally 81 = .ok (.dup2, 1) := by decide +kernel
theorem dX10_tally_82 : decode cX10_tally 82 = .ok (.iaload, 1) := by decide +kernel
theorem dX10_tally_83 : decode cX10_tally 83 = .ok (.iload_n 2, 1) := by decide +kernel
theorem dX10_tally_84 : decode cX10_tally 84 = .ok (.iadd, 1) := by decide +kernel
theorem dX10_tally_85 : decode cX10_tally 85 = .ok (.iastore, 1) := by decide +kernel
theorem dX10_tally_86 : decode cX10_tally 86 = .ok (.return_, 1) := by decide +kernel
theorem dX10_passQuietly_0 : decode cX10_passQuietly 0 = .ok (.aload_n 0, 1) := by decide +kernel
theorem dX10_passQuietly_1 : decode cX10_passQuietly 1 = .ok (.getfield 19, 3) := by decide +kernel
theorem dX10_passQuietly_4 : decode cX10_passQuietly 4 = .ok (.istore_n 2, 1) := by decide +kernel
theorem dX10_passQuietly_5 : decode cX10_passQuietly 5 = .ok (.iload_n 2, 1) := by decide +kernel
theorem dX10_passQuietly_6 : decode cX10_passQuietly 6 = .ok (.aload_n 0, 1) := by decide +kernel
theorem dX10_passQuietly_7 : decode cX10_passQuietly 7 = .ok (.getfield 29, 3) := by decide +kernel
theorem dX10_passQuietly_10 : decode cX10_passQuietly 10 = .ok (.if_icmp .gt 21, 3) := by decide +kernel
theorem dX10_passQuietly_13 : decode cX10_passQuietly 13 = .ok (.aload_n 0, 1) := by decide +kernel
theorem dX10_passQuietly_14 : decode cX10_passQuietly 14 = .ok (.iload_n 2, 1) := by decide +kernel
theorem dX10_passQuietly_15 : decode cX10_passQuietly 15 = .ok (.iload_n 1, 1) := by decide +kernel
theorem dX10_passQuietly_16 : decode cX10_passQuietly 16 = .ok (.invokevirtual 158, 3) := by decide +kernel
theorem dX10_passQuietly_19 : decode cX10_passQuietly 19 = .ok (.aload_n 0, 1) := by decide +kernel
theorem dX10_passQuietly_20 : decode cX10_passQuietly 20 = .ok (.iload_n 2, 1) := by decide +kernel
theorem dX10_passQuietly_21 : decode cX10_passQuietly 21 = .ok (.iload_n 1, 1) := by decide +kernel
theorem dX10_passQuietly_22 : decode cX10_passQuietly 22 = .ok (.invokevirtual 164, 3) := by decide +kernel
theorem dX10_passQuietly_25 : decode cX10_passQuietly 25 = .ok (.iinc 2 1, 3) := by decide +kernel
theorem dX10_passQuietly_28 : decode cX10_passQuietly 28 = .ok (.goto (-23), 3) := by decide +kernel
theorem dX10_passQuietly_31 : decode cX10_passQuietly 31 = .ok (.aload_n 0, 1) := by decide +kernel
theorem dX10_passQuietly_32 : decode cX10_passQuietly 32 = .ok (.getfield 15, 3) := by decide +kernel
theorem dX10_passQuietly_35 : decode cX10_passQuietly 35 = .ok (.dup, 1) := by decide +kernel
theorem dX10_passQuietly_36 : decode cX10_passQuietly 36 = .ok (.getfield 100, 3) := by decide +kernel
theorem dX10_passQuietly_39 : decode cX10_passQuietly 39 = .ok (.iload_n 1, 1) := by decide +kernel
theorem dX10_passQuietly_40 : decode cX10_passQuietly 40 = .ok (.iadd, 1) := by decide +kernel
theorem dX10_passQuietly_41 : decode cX10_passQuietly 41 = .ok (.putfield 100, 3) := by decide +kernel
theorem dX10_passQuietly_44 : decode cX10_passQuietly 44 = .ok (.return_, 1) := by decide +kernel
theorem dX10_hold_0 : decode cX10_hold 0 = .ok (.iload_n 1, 1) := by decide +kernel
theorem dX10_hold_1 : decode cX10_hold 1 = .ok (.bipush 6, 2) := by decide +kernel
theorem dX10_hold_3 : decode cX10_hold 3 = .ok (.imul, 1) := by decide +kernel
theorem dX10_hold_4 : decode cX10_hold 4 = .ok (.iload_n 2, 1) := by decide +kernel
theorem dX10_hold_5 : decode cX10_hold 5 = .ok (.iadd, 1) := by decide +kernel
theorem dX10_hold_6 : decode cX10_hold 6 = .ok (.istore_n 3, 1) := by decide +kernel
theorem dX10_hold_7 : decode cX10_hold 7 = .ok (.aload_n 0, 1) := by decide +kernel
theorem dX10_hold_8 : decode cX10_hold 8 = .ok (.getfield 15, 3) := by decide +kernel
theorem dX10_hold_11 : decode cX10_hold 11 = .ok (.getfield 93, 3) := by decide +kernel
theorem dX10_hold_14 : decode cX10_hold 14 = .ok (.iload_n 1, 1) := by decide +kernel
theorem dX10_hold_15 : decode cX10_hold 15 = .ok (.dup2, 1) := by decide +kernel
theorem dX10_hold_16 : decode cX10_hold 16 = .ok (.iaload, 1) := by decide +kernel
theorem dX10_hold_17 : decode cX10_hold 17 = .ok (.iconst 1, 1) := by decide +kernel
theorem dX10_hold_18 : decode cX10_hold 18 = .ok (.iload_n 2, 1) := by decide +kernel
theorem dX10_hold_19 : decode cX10_hold 19 = .ok (.ishl, 1) := by decide +kernel
theorem dX10_hold_20 : decode cX10_hold 20 = .ok (.ior, 1) := by decide +kernel
theorem dX10_hold_21 : decode cX10_hold 21 = .ok (.iastore, 1) := by decide +kernel
theorem dX10_hold_22 : decode cX10_hold 22 = .ok (.aload_n 0, 1) := by decide +kernel
theorem dX10_hold_23 : decode cX10_hold 23 = .ok (.getfield 15, 3) := by decide +kernel
theorem dX10_hold_26 : decode cX10_hold 26 = .ok (.getfield 112, 3) := by decide +kernel
theorem dX10_hold_29 : decode cX10_hold 29 = .ok (.iload_n 3, 1) := by decide +kernel
theorem dX10_hold_30 : decode cX10_hold 30 = .ok (.iconst 0, 1) := by decide +kernel
theorem dX10_hold_31 : decode cX10_hold 31 = .ok (.iastore, 1) := by decide +kernel
theorem dX10_hold_32 : decode cX10_hold 32 = .ok (.aload_n 0, 1) := by decide +kernel
theorem dX10_hold_33 : decode cX10_hold 33 = .ok (.getfield 15, 3) := by decide +kernel
theorem dX10_hold_36 : decode cX10_hold 36 = .ok (.getfield 115, 3) := by decide +kernel
theorem dX10_hold_39 : decode cX10_hold 39 = .ok (.iload_n 3, 1) := by decide +kernel
theorem dX10_hold_40 : decode cX10_hold 40 = .ok (.iconst (-1), 1) := by decide +kernel
theorem dX10_hold_41 : decode cX10_hold 41 = .ok (.iastore, 1) := by decide +kernel
theorem dX10_hold_42 : decode cX10_hold 42 = .ok (.aload_n 0, 1) := by decide +kernel
theorem dX10_hold_43 : decode cX10_hold 43 = .ok (.getfield 15, 3) := by decide +kernel
theorem dX10_hold_46 : decode cX10_hold 46 = .ok (.getfield 134, 3) := by decide +kernel
theorem dX10_hold_49 : decode cX10_hold 49 = .ok (.iload_n 1, 1) := by decide +kernel
theorem dX10_hold_50 : decode cX10_hold 50 = .ok (.dup2, 1) := by decide +kernel
theorem dX10_hold_51 : decode cX10_hold 51 = .ok (.iaload, 1) := by decide +kernel
theorem dX10_hold_52 : decode cX10_hold 52 = .ok (.iconst 1, 1) := by decide +kernel
theorem dX10_hold_53 : decode cX10_hold 53 = .ok (.iadd, 1) := by decide +kernel
theorem dX10_hold_54 : decode cX10_hold 54 = .ok (.iastore, 1) := by decide +kernel
theorem dX10_hold_55 : decode cX10_hold 55 = .ok (.aload_n 0, 1) := by decide +kernel
theorem dX10_hold_56 : decode cX10_hold 56 = .ok (.dup, 1) := by decide +kernel
theorem dX10_hold_57 : decode cX10_hold 57 = .ok (.getfield 137, 3) := by decide +kernel
theorem dX10_hold_60 : decode cX10_hold 60 = .ok (.iconst 1, 1) := by decide +kernel
theorem dX10_hold_61 : decode cX10_hold 61 = .ok (.iadd, 1) := by decide +kernel
theorem dX10_hold_62 : decode cX10_hold 62 = .ok (.putfield 137, 3) := by decide +kernel
theorem dX10_hold_65 : decode cX10_hold 65 = .ok (.aload_n 0, 1) := by decide +kernel
theorem dX10_hold_66 : decode cX10_hold 66 = .ok (.getfield 15, 3) := by decide +kernel
theorem dX10_hold_69 : decode cX10_hold 69 = .ok (.getfield 96, 3) := by decide +kernel
theorem dX10_hold_72 : decode cX10_hold 72 = .ok (.aload_n 0, 1) := by decide +kernel
theorem dX10_hold_73 : decode cX10_hold 73 = .ok (.getfield 15, 3) := by decide +kernel
theorem dX10_hold_76 : decode cX10_hold 76 = .ok (.getfield 100, 3) := by decide +kernel
theorem dX10_hold_79 : decode cX10_hold 79 = .ok (.iload_n 1, 1) := by decide +kernel
theorem dX10_hold_80 : decode cX10_hold 80 = .ok (.iload_n 2, 1) := by decide +kernel
theorem dX10_hold_81 : decode cX10_hold 81 = .ok (.iconst 0, 1) := by decide +kernel
theorem dX10_hold_82 : decode cX10_hold 82 = .ok (.invokevirtual 103, 3) := by decide +kernel
theorem dX10_hold_85 : decode cX10_hold 85 = .ok (.return_, 1) := by decide +kernel
theorem dX10_await_0 : decode cX10_await 0 = .ok (.iload_n 1, 1) := by decide +kernel
theorem dX10_await_1 : decode cX10_await 1 = .ok (.bipush 6, 2) := by decide +kernel
theorem dX10_await_3 : decode cX10_await 3 = .ok (.imul, 1) := by decide +kernel
theorem dX10_await_4 : decode cX10_await 4 = .ok (.iload_n 2, 1) := by decide +kernel
theorem dX10_await_5 : decode cX10_await 5 = .ok (.iadd, 1) := by decide +kernel
theorem dX10_await_6 : decode cX10_await 6 = .ok (.istore_n 3, 1) := by decide +kernel
theorem dX10_await_7 : decode cX10_await 7 = .ok (.aload_n 0, 1) := by decide +kernel
theorem dX10_await_8 : decode cX10_await 8 = .ok (.getfield 15, 3) := by decide +kernel
theorem dX10_await_11 : decode cX10_await 11 = .ok (.getfield 112, 3) := by decide +kernel
theorem dX10_await_14 : decode cX10_await 14 = .ok (.iload_n 3, 1) := by decide +kernel
theorem dX10_await_15 : decode cX10_await 15 = .ok (.aload_n 0, 1) := by decide +kernel
theorem dX10_await_16 : decode cX10_await 16 = .ok (.getfield 9, 3) := by decide +kernel
theorem dX10_await_19 : decode cX10_await 19 = .ok (.iload_n 1, 1) := by decide +kernel
theorem dX10_await_20 : decode cX10_await 20 = .ok (.aload_n 0, 1) := by decide +kernel
theorem dX10_await_21 : decode cX10_await 21 = .ok (.getfield 15, 3) := by decide +kernel
theorem dX10_await_24 : decode cX10_await 24 = .ok (.getfield 67, 3) := by decide +kernel
theorem dX10_await_27 : decode cX10_await 27 = .ok (.iload_n 3, 1) := by decide +kernel
theorem dX10_await_28 : decode cX10_await 28 = .ok (.iaload, 1) := by decide +kernel
theorem dX10_await_29 : decode cX10_await 29 = .ok (.invokevirtual 140, 3) := by decide +kernel
theorem dX10_await_32 : decode cX10_await 32 = .ok (.iastore, 1) := by decide +kernel
theorem dX10_await_33 : decode cX10_await 33 = .ok (.aload_n 0, 1) := by decide +kernel
theorem dX10_await_34 : decode cX10_await 34 = .ok (.getfield 15, 3) := by decide +kernel
theorem dX10_await_37 : decode cX10_await 37 = .ok (.getfield 115, 3) := by decide +kernel
theorem dX10_await_40 : decode cX10_await 40 = .ok (.iload_n 3, 1) := by decide +kernel
theorem dX10_await_41 : decode cX10_await 41 = .ok (.iconst (-1), 1) := by decide +kernel
theorem dX10_await_42 : decode cX10_await 42 = .ok (.iastore, 1) := by decide +kernel
theorem dX10_await_43 : decode cX10_await 43 = .ok (.return_, 1) := by decide +kernel
theorem dX10_raise_0 : decode cX10_raise 0 = .ok (.aload_n 0, 1) := by decide +kernel
theorem dX10_raise_1 : decode cX10_raise 1 = .ok (.getfield 15, 3) := by decide +kernel
theorem dX10_raise_4 : decode cX10_raise 4 = .ok (.dup, 1) := by decide +kernel
theorem dX10_raise_5 : decode cX10_raise 5 = .ok (.getfield 77, 3) := by decide +kernel
theorem dX10_raise_8 : decode cX10_raise 8 = .ok (.iload_n 1, 1) := by decide +kernel
theorem dX10_raise_9 : decode cX10_raise 9 = .ok (.ior, 1) := by decide +kernel
theorem dX10_raise_10 : decode cX10_raise 10 = .ok (.putfield 77, 3) := by decide +kernel
theorem dX10_raise_13 : decode cX10_raise 13 = .ok (.iconst 0, 1) := by decide +kernel
theorem dX10_raise_14 : decode cX10_raise 14 = .ok (.istore_n 2, 1) := by decide +kernel
theorem dX10_raise_15 : decode cX10_raise 15 = .ok (.iload_n 2, 1) := by decide +kernel
theorem dX10_raise_16 : decode cX10_raise 16 = .ok (.aload_n 0, 1) := by decide +kernel
theorem dX10_raise_17 : decode cX10_raise 17 = .ok (.getfield 9, 3) := by decide +kernel
theorem dX10_raise_20 : decode cX10_raise 20 = .ok (.getfield 23, 3) := by decide +kernel
theorem dX10_raise_23 : decode cX10_raise 23 = .ok (.iconst 2, 1) := by decide +kernel
theorem dX10_raise_24 : decode cX10_raise 24 = .ok (.iaload, 1) := by decide +kernel
theorem dX10_raise_25 : decode cX10_raise 25 = .ok (.if_icmp .ge 79, 3) := by decide +kernel
theorem dX10_raise_28 : decode cX10_raise 28 = .ok (.iconst 0, 1) := by decide +kernel
theorem dX10_raise_29 : decode cX10_raise 29 = .ok (.istore_n 3, 1) := by decide +kernel
theorem dX10_raise_30 : decode cX10_raise 30 = .ok (.iload_n 3, 1) := by decide +kernel
theorem dX10_raise_31 : decode cX10_raise 31 = .ok (.bipush 6, 2) := by decide +kernel
theorem dX10_raise_33 : decode cX10_raise 33 = .ok (.if_icmp .ge 65, 3) := by decide +kernel
theorem dX10_raise_36 : decode cX10_raise 36 = .ok (.aload_n 0, 1) := by decide +kernel
theorem dX10_raise_37 : decode cX10_raise 37 = .ok (.getfield 9, 3) := by decide +kernel
theorem dX10_raise_40 : decode cX10_raise 40 = .ok (.getfield 80, 3) := by decide +kernel
theorem dX10_raise_43 : decode cX10_raise 43 = .ok (.iload_n 2, 1) := by decide +kernel
theorem dX10_raise_44 : decode cX10_raise 44 = .ok (.iaload, 1) := by decide +kernel
theorem dX10_raise_45 : decode cX10_raise 45 = .ok (.iload_n 1, 1) := by decide +kernel
theorem dX10_raise_46 : decode cX10_raise 46 = .ok (.iand, 1) := by decide +kernel
theorem dX10_raise_47 : decode cX10_raise 47 = .ok (.iconst 1, 1) := by decide +kernel
theorem dX10_raise_48 : decode cX10_raise 48 = .ok (.iload_n 3, 1) := by decide +kernel
theorem dX10_raise_49 : decode cX10_raise 49 = .ok (.ishl, 1) := by decide +kernel
theorem dX10_raise_50 : decode cX10_raise 50 = .ok (.iand, 1) := by decide +kernel
theorem dX10_raise_51 : decode cX10_raise 51 = .ok (.ifCond .ne 6, 3) := by decide +kernel
theorem dX10_raise_54 : decode cX10_raise 54 = .ok (.goto 38, 3) := by decide +kernel
theorem dX10_raise_57 : decode cX10_raise 57 = .ok (.aload_n 0, 1) := by decide +kernel
theorem dX10_raise_58 : decode cX10_raise 58 = .ok (.getfield 15, 3) := by decide +kernel
theorem dX10_raise_61 : decode cX10_raise 61 = .ok (.getfield 64, 3) := by decide +kernel
theorem dX10_raise_64 : decode cX10_raise 64 = .ok (.iload_n 2, 1) := by decide +kernel
theorem dX10_raise_65 : decode cX10_raise 65 = .ok (.bipush 6, 2) := by decide +kernel
theorem dX10_raise_67 : decode cX10_raise 67 = .ok (.imul, 1) := by decide +kernel
theorem dX10_raise_68 : decode cX10_raise 68 = .ok (.iload_n 3, 1) := by decide +kernel
theorem dX10_raise_69 : decode cX10_raise 69 = .ok (.iadd, 1) := by decide +kernel
theorem dX10_raise_70 : decode cX10_raise 70 = .ok (.iaload, 1) := by decide +kernel
theorem dX10_raise_71 : decode cX10_raise 71 = .ok (.sipush 255, 3) := by decide +kernel
theorem dX10_raise_74 : decode cX10_raise 74 = .ok (.if_icmp .ne 12, 3) := by decide +kernel
theorem dX10_raise_77 : decode cX10_raise 77 = .ok (.aload_n 0, 1) := by decide +kernel
theorem dX10_raise_78 : decode cX10_raise 78 = .ok (.iload_n 2, 1) := by decide +kernel
theorem dX10_raise_79 : decode cX10_raise 79 = .ok (.iload_n 3, 1) := by decide +kernel
theorem dX10_raise_80 : decode cX10_raise 80 = .ok (.invokevirtual 83, 3) := by decide +kernel
theorem dX10_raise_83 : decode cX10_raise 83 = .ok (.goto 9, 3) := by decide +kernel
theorem dX10_raise_86 : decode cX10_raise 86 = .ok (.aload_n 0, 1) := by decide +kernel
theorem dX10_raise_87 : decode cX10_raise 87 = .ok (.iload_n 2, 1) := by decide +kernel
theorem dX10_raise_88 : decode cX10_raise 88 = .ok (.iload_n 3, 1) := by decide +kernel
theorem dX10_raise_89 : decode cX10_raise 89 = .ok (.invokevirtual 87, 3) := by decide +kernel
theorem dX10_raise_92 : decode cX10_raise 92 = .ok (.iinc 3 1, 3) := by decide +kernel
theorem dX10_raise_95 : decode cX10_raise 95 = .ok (.goto (-65), 3) := by decide +kernel
theorem dX10_raise_98 : decode cX10_raise 98 = .ok (.iinc 2 1, 3) := by decide +kernel
theorem dX10_raise_101 : decode cX10_raise 101 = .ok (.goto (-86), 3) := by decide +kernel
theorem dX10_raise_104 : decode cX10_raise 104 = .ok (.return_, 1) := by decide +kernel
theorem dX10_sayFarewell_0 : decode cX10_sayFarewell 0 = .ok (.aload_n 0, 1) := by decide +kernel
theorem dX10_sayFarewell_1 : decode cX10_sayFarewell 1 = .ok (.getfield 15, 3) := by decide +kernel
theorem dX10_sayFarewell_4 : decode cX10_sayFarewell 4 = .ok (.dup, 1) := by decide +kernel
theorem dX10_sayFarewell_5 : decode cX10_sayFarewell 5 = .ok (.getfield 118, 3) := by decide +kernel
theorem dX10_sayFarewell_8 : decode cX10_sayFarewell 8 = .ok (.iconst 1, 1) := by decide +kernel
theorem dX10_sayFarewell_9 : decode cX10_sayFarewell 9 = .ok (.iadd, 1) := by decide +kernel
theorem dX10_sayFarewell_10 : decode cX10_sayFarewell 10 = .ok (.putfield 118, 3) := by decide +kernel
theorem dX10_sayFarewell_13 : decode cX10_sayFarewell 13 = .ok (.aload_n 0, 1) := by decide +kernel
theorem dX10_sayFarewell_14 : decode cX10_sayFarewell 14 = .ok (.getfield 9, 3) := by decide +kernel
theorem dX10_sayFarewell_17 : decode cX10_sayFarewell 17 = .ok (.getfield 80, 3) := by decide +kernel
theorem dX10_sayFarewell_20 : decode cX10_sayFarewell 20 = .ok (.iload_n 1, 1) := by decide +kernel
theorem dX10_sayFarewell_21 : decode cX10_sayFarewell 21 = .ok (.iaload, 1) := by decide +kernel
theorem dX10_sayFarewell_22 : decode cX10_sayFarewell 22 = .ok (.aload_n 0, 1) := by decide +kernel
theorem dX10_sayFarewell_23 : decode cX10_sayFarewell 23 = .ok (.getfield 15, 3) := by decide +kernel
theorem dX10_sayFarewell_26 : decode cX10_sayFarewell 26 = .ok (.getfield 77, 3) := by decide +kernel
theorem dX10_sayFarewell_29 : decode cX10_sayFarewell 29 = .ok (.iand, 1) := by decide +kernel
theorem dX10_sayFarewell_30 : decode cX10_sayFarewell 30 = .ok (.aload_n 0, 1) := by decide +kernel
theorem dX10_sayFarewell_31 : decode cX10_sayFarewell 31 = .ok (.getfield 15, 3) := by decide +kernel
theorem dX10_sayFarewell_34 : decode cX10_sayFarewell 34 = .ok (.iload_n 2, 1) := by decide +kernel
theorem dX10_sayFarewell_35 : decode cX10_sayFarewell 35 = .ok (.invokevirtual 121, 3) := by decide +kernel
theorem dX10_sayFarewell_38 : decode cX10_sayFarewell 38 = .ok (.iand, 1) := by decide +kernel
theorem dX10_sayFarewell_39 : decode cX10_sayFarewell 39 = .ok (.aload_n 0, 1) := by decide +kernel
theorem dX10_sayFarewell_40 : decode cX10_sayFarewell 40 = .ok (.getfield 15, 3) := by decide +kernel
theorem dX10_sayFarewell_43 : decode cX10_sayFarewell 43 = .ok (.getfield 93, 3) := by decide +kernel
theorem dX10_sayFarewell_46 : decode cX10_sayFarewell 46 = .ok (.iload_n 1, 1) := by decide +kernel
theorem dX10_sayFarewell_47 : decode cX10_sayFarewell 47 = .ok (.iaload, 1) := by decide +kernel
theorem dX10_sayFarewell_48 : decode cX10_sayFarewell 48 = .ok (.iconst (-1), 1) := by decide +kernel
theorem dX10_sayFarewell_49 : decode cX10_sayFarewell 49 = .ok (.ixor, 1) := by decide +kernel
theorem dX10_sayFarewell_50 : decode cX10_sayFarewell 50 = .ok (.iand, 1) := by decide +kernel
theorem dX10_sayFarewell_51 : decode cX10_sayFarewell 51 = .ok (.istore_n 3, 1) := by decide +kernel
theorem dX10_sayFarewell_52 : decode cX10_sayFarewell 52 = .ok (.iconst 0, 1) := by decide +kernel
theorem dX10_sayFarewell_53 : decode cX10_sayFarewell 53 = .ok (.istore 4, 2) := by decide +kernel
theorem dX10_sayFarewell_55 : decode cX10_sayFarewell 55 = .ok (.iload 4, 2) := by decide +kernel
theorem dX10_sayFarewell_57 : decode cX10_sayFarewell 57 = .ok (.bipush 6, 2) := by decide +kernel
theorem dX10_sayFarewell_59 : decode cX10_sayFarewell 59 = .ok (.if_icmp .ge 65, 3) := by decide +kernel
theorem dX10_sayFarewell_62 : decode cX10_sayFarewell 62 = .ok (.iload_n 1, 1) := by decide +kernel
theorem dX10_sayFarewell_63 : decode cX10_sayFarewell 63 = .ok (.bipush 6, 2) := by decide +kernel
theorem dX10_sayFarewell_65 : decode cX10_sayFarewell 65 = .ok (.imul, 1) := by decide +kernel
theorem dX10_sayFarewell_66 : decode cX10_sayFarewell 66 = .ok (.iload 4, 2) := by decide +kernel
theorem dX10_sayFarewell_68 : decode cX10_sayFarewell 68 = .ok (.iadd, 1) := by decide +kernel
theorem dX10_sayFarewell_69 : decode cX10_sayFarewell 69 = .ok (.istore 5, 2) := by decide +kernel
theorem dX10_sayFarewell_71 : decode cX10_sayFarewell 71 = .ok (.iload_n 3, 1) := by decide +kernel
theorem dX10_sayFarewell_72 : decode cX10_sayFarewell 72 = .ok (.iload 4, 2) := by decide +kernel
theorem dX10_sayFarewell_74 : decode cX10_sayFarewell 74 = .ok (.ishr, 1) := by decide +kernel
theorem dX10_sayFarewell_75 : decode cX10_sayFarewell 75 = .ok (.iconst 1, 1) := by decide +kernel
theorem dX10_sayFarewell_76 : decode cX10_sayFarewell 76 = .ok (.iand, 1) := by decide +kernel
theorem dX10_sayFarewell_77 : decode cX10_sayFarewell 77 = .ok (.iconst 1, 1) := by decide +kernel
theorem dX10_sayFarewell_78 : decode cX10_sayFarewell 78 = .ok (.if_icmp .ne 40, 3) := by decide +kernel
theorem dX10_sayFarewell_81 : decode cX10_sayFarewell 81 = .ok (.aload_n 0, 1) := by decide +kernel
theorem dX10_sayFarewell_82 : decode cX10_sayFarewell 82 = .ok (.getfield 15, 3) := by decide +kernel
theorem dX10_sayFarewell_85 : decode cX10_sayFarewell 85 = .ok (.getfield 112, 3) := by decide +kernel
theorem dX10_sayFarewell_88 : decode cX10_sayFarewell 88 = .ok (.iload 5, 2) := by decide +kernel
theorem dX10_sayFarewell_90 : decode cX10_sayFarewell 90 = .ok (.aload_n 0, 1) := by decide +kernel
theorem dX10_sayFarewell_91 : decode cX10_sayFarewell 91 = .ok (.getfield 15, 3) := by decide +kernel
theorem dX10_sayFarewell_94 : decode cX10_sayFarewell 94 = .ok (.getfield 112, 3) := by decide +kernel
theorem dX10_sayFarewell_97 : decode cX10_sayFarewell 97 = .ok (.iload 5, 2) := by decide +kernel
theorem dX10_sayFarewell_99 : decode cX10_sayFarewell 99 = .ok (.iaload, 1) := by decide +kernel
theorem dX10_sayFarewell_100 : decode cX10_sayFarewell 100 = .ok (.aload_n 0, 1) := by decide +kernel
theorem dX10_sayFarewell_101 : decode cX10_sayFarewell 101 = .ok (.getfield 15, 3) := by decide +kernel
theorem dX10_sayFarewell_104 : decode cX10_sayFarewell 104 = .ok (.getfield 67, 3) := by decide +kernel
theorem dX10_sayFarewell_107 : decode cX10_sayFarewell 107 = .ok (.iload 5, 2) := by decide +kernel
theorem dX10_sayFarewell_109 : decode cX10_sayFarewell 109 = .ok (.iaload, 1) := by decide +kernel
theorem dX10_sayFarewell_110 : decode cX10_sayFarewell 110 = .ok (.iconst 1, 1) := by decide +kernel
theorem dX10_sayFarewell_111 : decode cX10_sayFarewell 111 = .ok (.invokestatic 125, 3) := by decide +kernel
theorem dX10_sayFarewell_114 : decode cX10_sayFarewell 114 = .ok (.invokestatic 131, 3) := by decide +kernel
theorem dX10_sayFarewell_117 : decode cX10_sayFarewell 117 = .ok (.iastore, 1) := by decide +kernel
theorem dX10_sayFarewell_118 : decode cX10_sayFarewell 118 = .ok (.iinc 4 1, 3) := by decide +kernel
theorem dX10_sayFarewell_121 : decode cX10_sayFarewell 121 = .ok (.goto (-66), 3) := by decide +kernel
theorem dX10_sayFarewell_124 : decode cX10_sayFarewell 124 = .ok (.return_, 1) := by decide +kernel
theorem dX10_lower_0 : decode cX10_lower 0 = .ok (.iconst 0, 1) := by decide +kernel
theorem dX10_lower_1 : decode cX10_lower 1 = .ok (.istore_n 3, 1) := by decide +kernel
theorem dX10_lower_2 : decode cX10_lower 2 = .ok (.aload_n 0, 1) := by decide +kernel
theorem dX10_lower_3 : decode cX10_lower 3 = .ok (.getfield 15, 3) := by decide +kernel
theorem dX10_lower_6 : decode cX10_lower 6 = .ok (.dup, 1) := by decide +kernel
theorem dX10_lower_7 : decode cX10_lower 7 = .ok (.getfield 77, 3) := by decide +kernel
theorem dX10_lower_10 : decode cX10_lower 10 = .ok (.iconst 1, 1) := by decide +kernel
theorem dX10_lower_11 : decode cX10_lower 11 = .ok (.iload_n 1, 1) := by decide +kernel
theorem dX10_lower_12 : decode cX10_lower 12 = .ok (.ishl, 1) := by decide +kernel
theorem dX10_lower_13 : decode cX10_lower 13 = .ok (.iconst (-1), 1) := by decide +kernel
theorem dX10_lower_14 : decode cX10_lower 14 = .ok (.ixor, 1) := by decide +kernel
theorem dX10_lower_15 : decode cX10_lower 15 = .ok (.iand, 1) := by decide +kernel
theorem dX10_lower_16 : decode cX10_lower 16 = .ok (.putfield 77, 3) := by decide +kernel
theorem dX10_lower_19 : decode cX10_lower 19 = .ok (.iconst 0, 1) := by decide +kernel
theorem dX10_lower_20 : decode cX10_lower 20 = .ok (.istore 4, 2) := by decide +kernel
theorem dX10_lower_22 : decode cX10_lower 22 = .ok (.iload 4, 2) := by decide +kernel
theorem dX10_lower_24 : decode cX10_lower 24 = .ok (.aload_n 0, 1) := by decide +kernel
theorem dX10_lower_25 : decode cX10_lower 25 = .ok (.getfield 9, 3) := by decide +kernel
theorem dX10_lower_28 : decode cX10_lower 28 = .ok (.getfield 23, 3) := by decide +kernel
theorem dX10_lower_31 : decode cX10_lower 31 = .ok (.iconst 2, 1) := by decide +kernel
theorem dX10_lower_32 : decode cX10_lower 32 = .ok (.iaload, 1) := by decide +kernel
theorem dX10_lower_33 : decode cX10_lower 33 = .ok (.if_icmp .ge 107, 3) := by decide +kernel
theorem dX10_lower_36 : decode cX10_lower 36 = .ok (.aload_n 0, 1) := by decide +kernel
theorem dX10_lower_37 : decode cX10_lower 37 = .ok (.getfield 15, 3) := by decide +kernel
theorem dX10_lower_40 : decode cX10_lower 40 = .ok (.iload 4, 2) := by decide +kernel
theorem dX10_lower_42 : decode cX10_lower 42 = .ok (.iload_n 1, 1) := by decide +kernel
theorem dX10_lower_43 : decode cX10_lower 43 = .ok (.invokevirtual 90, 3) := by decide +kernel
theorem dX10_lower_46 : decode cX10_lower 46 = .ok (.ifCond .eq 56, 3) := by decide +kernel
theorem dX10_lower_49 : decode cX10_lower 49 = .ok (.iinc 3 1, 3) := by decide +kernel
theorem dX10_lower_52 : decode cX10_lower 52 = .ok (.aload_n 0, 1) := by decide +kernel
theorem dX10_lower_53 : decode cX10_lower 53 = .ok (.getfield 15, 3) := by decide +kernel
theorem dX10_lower_56 : decode cX10_lower 56 = .ok (.getfield 93, 3) := by decide +kernel
theorem dX10_lower_59 : decode cX10_lower 59 = .ok (.iload 4, 2) := by decide +kernel
theorem dX10_lower_61 : decode cX10_lower 61 = .ok (.dup2, 1) := by decide +kernel
theorem dX10_lower_62 : decode cX10_lower 62 = .ok (.iaload, 1) := by decide +kernel
theorem dX10_lower_63 : decode cX10_lower 63 = .ok (.iconst 1, 1) := by decide +kernel
theorem dX10_lower_64 : decode cX10_lower 64 = .ok (.iload_n 1, 1) := by decide +kernel
theorem dX10_lower_65 : decode cX10_lower 65 = .ok (.ishl, 1) := by decide +kernel
theorem dX10_lower_66 : decode cX10_lower 66 = .ok (.iconst (-1), 1) := by decide +kernel
theorem dX10_lower_67 : decode cX10_lower 67 = .ok (.ixor, 1) := by decide +kernel
theorem dX10_lower_68 : decode cX10_lower 68 = .ok (.iand, 1) := by decide +kernel
theorem dX10_lower_69 : decode cX10_lower 69 = .ok (.iastore, 1) := by decide +kernel
theorem dX10_lower_70 : decode cX10_lower 70 = .ok (.aload_n 0, 1) := by decide +kernel
theorem dX10_lower_71 : decode cX10_lower 71 = .ok (.getfield 15, 3) := by decide +kernel
theorem dX10_lower_74 : decode cX10_lower 74 = .ok (.getfield 96, 3) := by decide +kernel
theorem dX10_lower_77 : decode cX10_lower 77 = .ok (.aload_n 0, 1) := by decide +kernel
theorem dX10_lower_78 : decode cX10_lower 78 = .ok (.getfield 15, 3) := by decide +kernel
theorem dX10_lower_81 : decode cX10_lower 81 = .ok (.getfield 100, 3) := by decide +kernel
theorem dX10_lower_84 : decode cX10_lower 84 = .ok (.iload 4, 2) := by decide +kernel
theorem dX10_lower_86 : decode cX10_lower 86 = .ok (.iload_n 1, 1) := by decide +kernel
theorem dX10_lower_87 : decode cX10_lower 87 = .ok (.iconst 2, 1) := by decide +kernel
theorem dX10_lower_88 : decode cX10_lower 88 = .ok (.invokevirtual 103, 3) := by decide +kernel
theorem dX10_lower_91 : decode cX10_lower 91 = .ok (.iload_n 2, 1) := by decide +kernel
theorem dX10_lower_92 : decode cX10_lower 92 = .ok (.ifCond .eq 10, 3) := by decide +kernel
theorem dX10_lower_95 : decode cX10_lower 95 = .ok (.aload_n 0, 1) := by decide +kernel
theorem dX10_lower_96 : decode cX10_lower 96 = .ok (.iload 4, 2) := by decide +kernel
theorem dX10_lower_98 : decode cX10_lower 98 = .ok (.iload_n 1, 1) := by decide +kernel
theorem dX10_lower_99 : decode cX10_lower 99 = .ok (.invokevirtual 109, 3) := by decide +kernel
theorem dX10_lower_102 : decode cX10_lower 102 = .ok (.aload_n 0, 1) := by decide +kernel
theorem dX10_lower_103 : decode cX10_lower 103 = .ok (.getfield 15, 3) := by decide +kernel
theorem dX10_lower_106 : decode cX10_lower 106 = .ok (.getfield 112, 3) := by decide +kernel
theorem dX10_lower_109 : decode cX10_lower 109 = .ok (.iload 4, 2) := by decide +kernel
theorem dX10_lower_111 : decode cX10_lower 111 = .ok (.bipush 6, 2) := by decide +kernel
theorem dX10_lower_113 : decode cX10_lower 113 = .ok (.imul, 1) := by decide +kernel
theorem dX10_lower_114 : decode cX10_lower 114 = .ok (.iload_n 1, 1) := by decide +kernel
theorem dX10_lower_115 : decode cX10_lower 115 = .ok (.iadd, 1) := by decide +kernel
theorem dX10_lower_116 : decode cX10_lower 116 = .ok (.iconst 0, 1) := by decide +kernel
theorem dX10_lower_117 : decode cX10_lower 117 = .ok (.iastore, 1) := by decide +kernel
theorem dX10_lower_118 : decode cX10_lower 118 = .ok (.aload_n 0, 1) := by decide +kernel
theorem dX10_lower_119 : decode cX10_lower 119 = .ok (.getfield 15, 3) := by decide +kernel
theorem dX10_lower_122 : decode cX10_lower 122 = .ok (.getfield 115, 3) := by decide +kernel
theorem dX10_lower_125 : decode cX10_lower 125 = .ok (.iload 4, 2) := by decide +kernel
theorem dX10_lower_127 : decode cX10_lower 127 = .ok (.bipush 6, 2) := by decide +kernel
theorem dX10_lower_129 : decode cX10_lower 129 = .ok (.imul, 1) := by decide +kernel
theorem dX10_lower_130 : decode cX10_lower 130 = .ok (.iload_n 1, 1) := by decide +kernel
theorem dX10_lower_131 : decode cX10_lower 131 = .ok (.iadd, 1) := by decide +kernel
theorem dX10_lower_132 : decode cX10_lower 132 = .ok (.iconst (-1), 1) := by decide +kernel
theorem dX10_lower_133 : decode cX10_lower 133 = .ok (.iastore, 1) := by decide +kernel
theorem dX10_lower_134 : decode cX10_lower 134 = .ok (.iinc 4 1, 3) := by decide +kernel
theorem dX10_lower_137 : decode cX10_lower 137 = .ok (.goto (-115), 3) := by decide +kernel
theorem dX10_lower_140 : decode cX10_lower 140 = .ok (.iload_n 3, 1) := by decide +kernel
theorem dX10_lower_141 : decode cX10_lower 141 = .ok (.ireturn, 1) := by decide +kernel
theorem dX10_weigh_0 : decode cX10_weigh 0 = .ok (.aload_n 0, 1) := by decide +kernel
theorem dX10_weigh_1 : decode cX10_weigh 1 = .ok (.getfield 9, 3) := by decide +kernel
theorem dX10_weigh_4 : decode cX10_weigh 4 = .ok (.iload_n 1, 1) := by decide +kernel
theorem dX10_weigh_5 : decode cX10_weigh 5 = .ok (.aload_n 0, 1) := by decide +kernel
theorem dX10_weigh_6 : decode cX10_weigh 6 = .ok (.getfield 15, 3) := by decide +kernel
theorem dX10_weigh_9 : decode cX10_weigh 9 = .ok (.getfield 57, 3) := by decide +kernel
theorem dX10_weigh_12 : decode cX10_weigh 12 = .ok (.iload_n 1, 1) := by decide +kernel
theorem dX10_weigh_13 : decode cX10_weigh 13 = .ok (.iaload, 1) := by decide +kernel
theorem dX10_weigh_14 : decode cX10_weigh 14 = .ok (.aload_n 0, 1) := by decide +kernel
theorem dX10_weigh_15 : decode cX10_weigh 15 = .ok (.getfield 15, 3) := by decide +kernel
theorem dX10_weigh_18 : decode cX10_weigh 18 = .ok (.getfield 51, 3) := by decide +kernel
theorem dX10_weigh_21 : decode cX10_weigh 21 = .ok (.invokevirtual 60, 3) := by decide +kernel
theorem dX10_weigh_24 : decode cX10_weigh 24 = .ok (.istore_n 2, 1) := by decide +kernel
theorem dX10_weigh_25 : decode cX10_weigh 25 = .ok (.aload_n 0, 1) := by decide +kernel
theorem dX10_weigh_26 : decode cX10_weigh 26 = .ok (.getfield 15, 3) := by decide +kernel
theorem dX10_weigh_29 : decode cX10_weigh 29 = .ok (.getfield 64, 3) := by decide +kernel
theorem dX10_weigh_32 : decode cX10_weigh 32 = .ok (.iload_n 1, 1) := by decide +kernel
theorem dX10_weigh_33 : decode cX10_weigh 33 = .ok (.iload_n 2, 1) := by decide +kernel
theorem dX10_weigh_34 : decode cX10_weigh 34 = .ok (.iastore, 1) := by decide +kernel
theorem dX10_weigh_35 : decode cX10_weigh 35 = .ok (.aload_n 0, 1) := by decide +kernel
theorem dX10_weigh_36 : decode cX10_weigh 36 = .ok (.getfield 15, 3) := by decide +kernel
theorem dX10_weigh_39 : decode cX10_weigh 39 = .ok (.getfield 67, 3) := by decide +kernel
theorem dX10_weigh_42 : decode cX10_weigh 42 = .ok (.iload_n 1, 1) := by decide +kernel
theorem dX10_weigh_43 : decode cX10_weigh 43 = .ok (.aload_n 0, 1) := by decide +kernel
theorem dX10_weigh_44 : decode cX10_weigh 44 = .ok (.getfield 9, 3) := by decide +kernel
theorem dX10_weigh_47 : decode cX10_weigh 47 = .ok (.getfield 70, 3) := by decide +kernel
theorem dX10_weigh_50 : decode cX10_weigh 50 = .ok (.iload_n 1, 1) := by decide +kernel
theorem dX10_weigh_51 : decode cX10_weigh 51 = .ok (.bipush 6, 2) := by decide +kernel
theorem dX10_weigh_53 : decode cX10_weigh 53 = .ok (.idiv, 1) := by decide +kernel
theorem dX10_weigh_54 : decode cX10_weigh 54 = .ok (.iaload, 1) := by decide +kernel
theorem dX10_weigh_55 : decode cX10_weigh 55 = .ok (.sipush 256, 3) := by decide +kernel
theorem dX10_weigh_58 : decode cX10_weigh 58 = .ok (.iload_n 2, 1) := by decide +kernel
theorem dX10_weigh_59 : decode cX10_weigh 59 = .ok (.isub, 1) := by decide +kernel
theorem dX10_weigh_60 : decode cX10_weigh 60 = .ok (.imul, 1) := by decide +kernel
theorem dX10_weigh_61 : decode cX10_weigh 61 = .ok (.sipush 256, 3) := by decide +kernel
theorem dX10_weigh_64 : decode cX10_weigh 64 = .ok (.idiv, 1) := by decide +kernel
theorem dX10_weigh_65 : decode cX10_weigh 65 = .ok (.iastore, 1) := by decide +kernel
theorem dX10_weigh_66 : decode cX10_weigh 66 = .ok (.return_, 1) := by decide +kernel
theorem dX10_setCuts_0 : decode cX10_setCuts 0 = .ok (.aload_n 0, 1) := by decide +kernel
theorem dX10_setCuts_1 : decode cX10_setCuts 1 = .ok (.getfield 15, 3) := by decide +kernel
theorem dX10_setCuts_4 : decode cX10_setCuts 4 = .ok (.iload_n 1, 1) := by decide +kernel
theorem dX10_setCuts_5 : decode cX10_setCuts 5 = .ok (.putfield 51, 3) := by decide +kernel
theorem dX10_setCuts_8 : decode cX10_setCuts 8 = .ok (.iconst 0, 1) := by decide +kernel
theorem dX10_setCuts_9 : decode cX10_setCuts 9 = .ok (.istore_n 2, 1) := by decide +kernel
theorem dX10_setCuts_10 : decode cX10_setCuts 10 = .ok (.iload_n 2, 1) := by decide +kernel
theorem dX10_setCuts_11 : decode cX10_setCuts 11 = .ok (.bipush 30, 2) := by decide +kernel
theorem dX10_setCuts_13 : decode cX10_setCuts 13 = .ok (.if_icmp .ge 14, 3) := by decide +kernel
theorem dX10_setCuts_16 : decode cX10_setCuts 16 = .ok (.aload_n 0, 1) := by decide +kernel
theorem dX10_setCuts_17 : decode cX10_setCuts 17 = .ok (.iload_n 2, 1) := by decide +kernel
theorem dX10_setCuts_18 : decode cX10_setCuts 18 = .ok (.invokevirtual 54, 3) := by decide +kernel
theorem dX10_setCuts_21 : decode cX10_setCuts 21 = .ok (.iinc 2 1, 3) := by decide +kernel
theorem dX10_setCuts_24 : decode cX10_setCuts 24 = .ok (.goto (-14), 3) := by decide +kernel
theorem dX10_setCuts_27 : decode cX10_setCuts 27 = .ok (.return_, 1) := by decide +kernel
theorem dX10_tell_0 : decode cX10_tell 0 = .ok (.aload_n 0, 1) := by decide +kernel
theorem dX10_tell_1 : decode cX10_tell 1 = .ok (.getfield 9, 3) := by decide +kernel
theorem dX10_tell_4 : decode cX10_tell 4 = .ok (.iload_n 1, 1) := by decide +kernel
theorem dX10_tell_5 : decode cX10_tell 5 = .ok (.iload_n 2, 1) := by decide +kernel
theorem dX10_tell_6 : decode cX10_tell 6 = .ok (.invokevirtual 73, 3) := by decide +kernel
theorem dX10_tell_9 : decode cX10_tell 9 = .ok (.ifCond .eq 28, 3) := by decide +kernel
theorem dX10_tell_12 : decode cX10_tell 12 = .ok (.aload_n 0, 1) := by decide +kernel
theorem dX10_tell_13 : decode cX10_tell 13 = .ok (.getfield 15, 3) := by decide +kernel
theorem dX10_tell_16 : decode cX10_tell 16 = .ok (.getfield 57, 3) := by decide +kernel
theorem dX10_tell_19 : decode cX10_tell 19 = .ok (.iload_n 1, 1) := by decide +kernel
theorem dX10_tell_20 : decode cX10_tell 20 = .ok (.bipush 6, 2) := by decide +kernel
theorem dX10_tell_22 : decode cX10_tell 22 = .ok (.imul, 1) := by decide +kernel
theorem dX10_tell_23 : decode cX10_tell 23 = .ok (.iload_n 2, 1) := by decide +kernel
theorem dX10_tell_24 : decode cX10_tell 24 = .ok (.iadd, 1) := by decide +kernel
theorem dX10_tell_25 : decode cX10_tell 25 = .ok (.iload_n 3, 1) := by decide +kernel
theorem dX10_tell_26 : decode cX10_tell 26 = .ok (.iastore, 1) := by decide +kernel
theorem dX10_tell_27 : decode cX10_tell 27 = .ok (.aload_n 0, 1) := by decide +kernel
theorem dX10_tell_28 : decode cX10_tell 28 = .ok (.iload_n 1, 1) := by decide +kernel
theorem dX10_tell_29 : decode cX10_tell 29 = .ok (.bipush 6, 2) := by decide +kernel
theorem dX10_tell_31 : decode cX10_tell 31 = .ok (.imul, 1) := by decide +kernel
theorem dX10_tell_32 : decode cX10_tell 32 = .ok (.iload_n 2, 1) := by decide +kernel
theorem dX10_tell_33 : decode cX10_tell 33 = .ok (.iadd, 1) := by decide +kernel
theorem dX10_tell_34 : decode cX10_tell 34 = .ok (.invokevirtual 54, 3) := by decide +kernel
theorem dX10_tell_37 : decode cX10_tell 37 = .ok (.return_, 1) := by decide +kernel
theorem dX10_happen_0 : decode cX10_happen 0 = .ok (.aload_n 0, 1) := by decide +kernel
theorem dX10_happen_1 : decode cX10_happen 1 = .ok (.getfield 15, 3) := by decide +kernel
theorem dX10_happen_4 : decode cX10_happen 4 = .ok (.getfield 167, 3) := by decide +kernel
theorem dX10_happen_7 : decode cX10_happen 7 = .ok (.istore_n 1, 1) := by decide +kernel
theorem dX10_happen_8 : decode cX10_happen 8 = .ok (.iload_n 1, 1) := by decide +kernel
theorem dX10_happen_9 : decode cX10_happen 9 = .ok (.aload_n 0, 1) := by decide +kernel
theorem dX10_happen_10 : decode cX10_happen 10 = .ok (.getfield 15, 3) := by decide +kernel
theorem dX10_happen_13 : decode cX10_happen 13 = .ok (.getfield 170, 3) := by decide +kernel
theorem dX10_happen_16 : decode cX10_happen 16 = .ok (.getfield 174, 3) := by decide +kernel
theorem dX10_happen_19 : decode cX10_happen 19 = .ok (.if_icmp .ge 241, 3) := by decide +kernel
theorem dX10_happen_22 : decode cX10_happen 22 = .ok (.aload_n 0, 1) := by decide +kernel
theorem dX10_happen_23 : decode cX10_happen 23 = .ok (.getfield 15, 3) := by decide +kernel
theorem dX10_happen_26 : decode cX10_happen 26 = .ok (.getfield 170, 3) := by decide +kernel
theorem dX10_happen_29 : decode cX10_happen 29 = .ok (.iload_n 1, 1) := by decide +kernel
theorem dX10_happen_30 : decode cX10_happen 30 = .ok (.invokevirtual 179, 3) := by decide +kernel
theorem dX10_happen_33 : decode cX10_happen 33 = .ok (.aload_n 0, 1) := by decide +kernel
theorem dX10_happen_34 : decode cX10_happen 34 = .ok (.getfield 15, 3) := by decide +kernel
theorem dX10_happen_37 : decode cX10_happen 37 = .ok (.getfield 100, 3) := by decide +kernel
theorem dX10_happen_40 : decode cX10_happen 40 = .ok (.if_icmp .ne 220, 3) := by decide +kernel
theorem dX10_happen_43 : decode cX10_happen 43 = .ok (.aload_n 0, 1) := by decide +kernel
theorem dX10_happen_44 : decode cX10_happen 44 = .ok (.getfield 15, 3) := by decide +kernel
theorem dX10_happen_47 : decode cX10_happen 47 = .ok (.iload_n 1, 1) := by decide +kernel
theorem dX10_happen_48 : decode cX10_happen 48 = .ok (.iconst 1, 1) := by decide +kernel
theorem dX10_happen_49 : decode cX10_happen 49 = .ok (.iadd, 1) := by decide +kernel
theorem dX10_happen_50 : decode cX10_happen 50 = .ok (.putfield 167, 3) := by decide +kernel
theorem dX10_happen_53 : decode cX10_happen 53 = .ok (.iload_n 1, 1) := by decide +kernel
theorem dX10_happen_54 : decode cX10_happen 54 = .ok (.iconst 5, 1) := by decide +kernel
theorem dX10_happen_55 : decode cX10_happen 55 = .ok (.imul, 1) := by decide +kernel
theorem dX10_happen_56 : decode cX10_happen 56 = .ok (.istore_n 2, 1) := by decide +kernel
theorem dX10_happen_57 : decode cX10_happen 57 = .ok (.aload_n 0, 1) := by decide +kernel
theorem dX10_happen_58 : decode cX10_happen 58 = .ok (.getfield 15, 3) := by decide +kernel
theorem dX10_happen_61 : decode cX10_happen 61 = .ok (.getfield 170, 3) := by decide +kernel
theorem dX10_happen_64 : decode cX10_happen 64 = .ok (.getfield 182, 3) := by decide +kernel
theorem dX10_happen_67 : decode cX10_happen 67 = .ok (.iload_n 2, 1) := by decide +kernel
theorem dX10_happen_68 : decode cX10_happen 68 = .ok (.iconst 2, 1) := by decide +kernel
theorem dX10_happen_69 : decode cX10_happen 69 = .ok (.iadd, 1) := by decide +kernel
theorem dX10_happen_70 : decode cX10_happen 70 = .ok (.iaload, 1) := by decide +kernel
theorem dX10_happen_71 : decode cX10_happen 71 = .ok (.istore_n 3, 1) := by decide +kernel
theorem dX10_happen_72 : decode cX10_happen 72 = .ok (.aload_n 0, 1) := by decide +kernel
theorem dX10_happen_73 : decode cX10_happen 73 = .ok (.getfield 15, 3) := by decide +kernel
theorem dX10_happen_76 : decode cX10_happen 76 = .ok (.getfield 170, 3) := by decide +kernel
theorem dX10_happen_79 : decode cX10_happen 79 = .ok (.getfield 182, 3) := by decide +kernel
theorem dX10_happen_82 : decode cX10_happen 82 = .ok (.iload_n 2, 1) := by decide +kernel
theorem dX10_happen_83 : decode cX10_happen 83 = .ok (.iconst 1, 1) := by decide +kernel
theorem dX10_happen_84 : decode cX10_happen 84 = .ok (.iadd, 1) := by decide +kernel
theorem dX10_happen_85 : decode cX10_happen 85 = .ok (.iaload, 1) := by decide +kernel
theorem dX10_happen_86 : decode cX10_happen 86 = .ok (.tableswitch 168 0 6 #[42, 62, 72, 90, 110, 121, 132], 42) := by decide +kernel
theorem dX10_happen_128 : decode cX10_happen 128 = .ok (.aload_n 0, 1) := by decide +kernel
theorem dX10_happen_129 : decode cX10_happen 129 = .ok (.iconst 1, 1) := by decide +kernel
theorem dX10_happen_130 : decode cX10_happen 130 = .ok (.iload_n 3, 1) := by decide +kernel
theorem dX10_happen_131 : decode cX10_happen 131 = .ok (.ishl, 1) := by decide +kernel
theorem dX10_happen_132 : decode cX10_happen 132 = .ok (.aload_n 0, 1) := by decide +kernel
theorem dX10_happen_133 : decode cX10_happen 133 = .ok (.getfield 15, 3) := by decide +kernel
theorem dX10_happen_136 : decode cX10_happen 136 = .ok (.getfield 77, 3) := by decide +kernel
theorem dX10_happen_139 : decode cX10_happen 139 = .ok (.iconst (-1), 1) := by decide +kernel
theorem dX10_happen_140 : decode cX10_happen 140 = .ok (.ixor, 1) := by decide +kernel
theorem dX10_happen_141 : decode cX10_happen 141 = .ok (.iand, 1) := by decide +kernel
theorem dX10_happen_142 : decode cX10_happen 142 = .ok (.invokevirtual 48, 3) := by decide +kernel
theorem dX10_happen_145 : decode cX10_happen 145 = .ok (.goto 109, 3) := by decide +kernel
theorem dX10_happen_148 : decode cX10_happen 148 = .ok (.aload_n 0, 1) := by decide +kernel
theorem dX10_happen_149 : decode cX10_happen 149 = .ok (.iload_n 3, 1) := by decide +kernel
theorem dX10_happen_150 : decode cX10_happen 150 = .ok (.iconst 0, 1) := by decide +kernel
theorem dX10_happen_151 : decode cX10_happen 151 = .ok (.invokevirtual 185, 3) := by decide +kernel
theorem dX10_happen_154 : decode cX10_happen 154 = .ok (.pop, 1) := by decide +kernel
theorem dX10_happen_155 : decode cX10_happen 155 = .ok (.goto 99, 3) := by decide +kernel
theorem dX10_happen_158 : decode cX10_happen 158 = .ok (.aload_n 0, 1) := by decide +kernel
theorem dX10_happen_159 : decode cX10_happen 159 = .ok (.aload_n 0, 1) := by decide +kernel
theorem dX10_happen_160 : decode cX10_happen 160 = .ok (.getfield 15, 3) := by decide +kernel
theorem dX10_happen_163 : decode cX10_happen 163 = .ok (.getfield 51, 3) := by decide +kernel
theorem dX10_happen_166 : decode cX10_happen 166 = .ok (.iconst 1, 1) := by decide +kernel
theorem dX10_happen_167 : decode cX10_happen 167 = .ok (.iload_n 3, 1) := by decide +kernel
theorem dX10_happen_168 : decode cX10_happen 168 = .ok (.ishl, 1) := by decide +kernel
theorem dX10_happen_169 : decode cX10_happen 169 = .ok (.ior, 1) := by decide +kernel
theorem dX10_happen_170 : decode cX10_happen 170 = .ok (.invokevirtual 44, 3) := by decide +kernel
theorem dX10_happen_173 : decode cX10_happen 173 = .ok (.goto 81, 3) := by decide +kernel
theorem dX10_happen_176 : decode cX10_happen 176 = .ok (.aload_n 0, 1) := by decide +kernel
theorem dX10_happen_177 : decode cX10_happen 177 = .ok (.aload_n 0, 1) := by decide +kernel
theorem dX10_happen_178 : decode cX10_happen 178 = .ok (.getfield 15, 3) := by decide +kernel
theorem dX10_happen_181 : decode cX10_happen 181 = .ok (.getfield 51, 3) := by decide +kernel
theorem dX10_happen_184 : decode cX10_happen 184 = .ok (.iconst 1, 1) := by decide +kernel
theorem dX10_happen_185 : decode cX10_happen 185 = .ok (.iload_n 3, 1) := by decide +kernel
theorem dX10_happen_186 : decode cX10_happen 186 = .ok (.ishl, 1) := by decide +kernel
theorem dX10_happen_187 : decode cX10_happen 187 = .ok (.iconst (-1), 1) := by decide +kernel
theorem dX10_happen_188 : decode cX10_happen 188 = .ok (.ixor, 1) := by decide +kernel
theorem dX10_happen_189 : decode cX10_happen 189 = .ok (.iand, 1) := by decide +kernel
theorem dX10_happen_190 : decode cX10_happen 190 = .ok (.invokevirtual 44, 3) := by decide +kernel
theorem dX10_happen_193 : decode cX10_happen 193 = .ok (.goto 61, 3) := by decide +kernel
theorem dX10_happen_196 : decode cX10_happen 196 = .ok (.aload_n 0, 1) := by decide +kernel
theorem dX10_happen_197 : decode cX10_happen 197 = .ok (.getfield 15, 3) := by decide +kernel
theorem dX10_happen_200 : decode cX10_happen 200 = .ok (.iload_n 3, 1) := by decide +kernel
theorem dX10_happen_201 : decode cX10_happen 201 = .ok (.putfield 189, 3) := by decide +kernel
theorem dX10_happen_204 : decode cX10_happen 204 = .ok (.goto 50, 3) := by decide +kernel
theorem dX10_happen_207 : decode cX10_happen 207 = .ok (.aload_n 0, 1) := by decide +kernel
theorem dX10_happen_208 : decode cX10_happen 208 = .ok (.getfield 15, 3) := by decide +kernel
theorem dX10_happen_211 : decode cX10_happen 211 = .ok (.iconst 0, 1) := by decide +kernel
theorem dX10_happen_212 : decode cX10_happen 212 = .ok (.putfield 189, 3) := by decide +kernel
theorem dX10_happen_215 : decode cX10_happen 215 = .ok (.goto 39, 3) := by decide +kernel
theorem dX10_happen_218 : decode cX10_happen 218 = .ok (.aload_n 0, 1) := by decide +kernel
theorem dX10_happen_219 : decode cX10_happen 219 = .ok (.aload_n 0, 1) := by decide +kernel
theorem dX10_happen_220 : decode cX10_happen 220 = .ok (.getfield 15, 3) := by decide +kernel
theorem dX10_happen_223 : decode cX10_happen 223 = .ok (.getfield 170, 3) := by decide +kernel
theorem dX10_happen_226 : decode cX10_happen 226 = .ok (.getfield 182, 3) := by decide +kernel
theorem dX10_happen_229 : decode cX10_happen 229 = .ok (.iload_n 2, 1) := by decide +kernel
theorem dX10_happen_230 : decode cX10_happen 230 = .ok (.iconst 3, 1) := by decide +kernel
theorem dX10_happen_231 : decode cX10_happen 231 = .ok (.iadd, 1) := by decide +kernel
theorem dX10_happen_232 : decode cX10_happen 232 = .ok (.iaload, 1) := by decide +kernel
theorem dX10_happen_233 : decode cX10_happen 233 = .ok (.iload_n 3, 1) := by decide +kernel
theorem dX10_happen_234 : decode cX10_happen 234 = .ok (.aload_n 0, 1) := by decide +kernel
theorem dX10_happen_235 : decode cX10_happen 235 = .ok (.getfield 15, 3) := by decide +kernel
theorem dX10_happen_238 : decode cX10_happen 238 = .ok (.getfield 170, 3) := by decide +kernel
theorem dX10_happen_241 : decode cX10_happen 241 = .ok (.getfield 182, 3) := by decide +kernel
theorem dX10_happen_244 : decode cX10_happen 244 = .ok (.iload_n 2, 1) := by decide +kernel
theorem dX10_happen_245 : decode cX10_happen 245 = .ok (.iconst 4, 1) := by decide +kernel
theorem dX10_happen_246 : decode cX10_happen 246 = .ok (.iadd, 1) := by decide +kernel
theorem dX10_happen_247 : decode cX10_happen 247 = .ok (.iaload, 1) := by decide +kernel
theorem dX10_happen_248 : decode cX10_happen 248 = .ok (.invokevirtual 192, 3) := by decide +kernel
theorem dX10_happen_251 : decode cX10_happen 251 = .ok (.goto 3, 3) := by decide +kernel
theorem dX10_happen_254 : decode cX10_happen 254 = .ok (.iinc 1 1, 3) := by decide +kernel
theorem dX10_happen_257 : decode cX10_happen 257 = .ok (.goto (-249), 3) := by decide +kernel
theorem dX10_happen_260 : decode cX10_happen 260 = .ok (.return_, 1) := by decide +kernel
theorem dX10_send_0 : decode cX10_send 0 = .ok (.iconst 0, 1) := by decide +kernel
theorem dX10_send_1 : decode cX10_send 1 = .ok (.istore_n 2, 1) := by decide +kernel
theorem dX10_send_2 : decode cX10_send 2 = .ok (.aload_n 0, 1) := by decide +kernel
theorem dX10_send_3 : decode cX10_send 3 = .ok (.getfield 9, 3) := by decide +kernel
theorem dX10_send_6 : decode cX10_send 6 = .ok (.getfield 80, 3) := by decide +kernel
theorem dX10_send_9 : decode cX10_send 9 = .ok (.iload_n 1, 1) := by decide +kernel
theorem dX10_send_10 : decode cX10_send 10 = .ok (.iaload, 1) := by decide +kernel
theorem dX10_send_11 : decode cX10_send 11 = .ok (.aload_n 0, 1) := by decide +kernel
theorem dX10_send_12 : decode cX10_send 12 = .ok (.getfield 15, 3) := by decide +kernel
theorem dX10_send_15 : decode cX10_send 15 = .ok (.getfield 77, 3) := by decide +kernel
theorem dX10_send_18 : decode cX10_send 18 = .ok (.iand, 1) := by decide +kernel
theorem dX10_send_19 : decode cX10_send 19 = .ok (.istore_n 3, 1) := by decide +kernel
theorem dX10_send_20 : decode cX10_send 20 = .ok (.iconst 0, 1) := by decide +kernel
theorem dX10_send_21 : decode cX10_send 21 = .ok (.istore 4, 2) := by decide +kernel
theorem dX10_send_23 : decode cX10_send 23 = .ok (.iload 4, 2) := by decide +kernel
theorem dX10_send_25 : decode cX10_send 25 = .ok (.bipush 6, 2) := by decide +kernel
theorem dX10_send_27 : decode cX10_send 27 = .ok (.if_icmp .ge 102, 3) := by decide +kernel
theorem dX10_send_30 : decode cX10_send 30 = .ok (.iload_n 1, 1) := by decide +kernel
theorem dX10_send_31 : decode cX10_send 31 = .ok (.bipush 6, 2) := by decide +kernel
theorem dX10_send_33 : decode cX10_send 33 = .ok (.imul, 1) := by decide +kernel
theorem dX10_send_34 : decode cX10_send 34 = .ok (.iload 4, 2) := by decide +kernel
theorem dX10_send_36 : decode cX10_send 36 = .ok (.iadd, 1) := by decide +kernel
theorem dX10_send_37 : decode cX10_send 37 = .ok (.istore 5, 2) := by decide +kernel
theorem dX10_send_39 : decode cX10_send 39 = .ok (.iload_n 3, 1) := by decide +kernel
theorem dX10_send_40 : decode cX10_send 40 = .ok (.iload 4, 2) := by decide +kernel
theorem dX10_send_42 : decode cX10_send 42 = .ok (.ishr, 1) := by decide +kernel
theorem dX10_send_43 : decode cX10_send 43 = .ok (.iconst 1, 1) := by decide +kernel
theorem dX10_send_44 : decode cX10_send 44 = .ok (.iand, 1) := by decide +kernel
theorem dX10_send_45 : decode cX10_send 45 = .ok (.ifCond .eq 78, 3) := by decide +kernel
theorem dX10_send_48 : decode cX10_send 48 = .ok (.aload_n 0, 1) := by decide +kernel
theorem dX10_send_49 : decode cX10_send 49 = .ok (.getfield 15, 3) := by decide +kernel
theorem dX10_send_52 : decode cX10_send 52 = .ok (.getfield 112, 3) := by decide +kernel
theorem dX10_send_55 : decode cX10_send 55 = .ok (.iload 5, 2) := by decide +kernel
theorem dX10_send_57 : decode cX10_send 57 = .ok (.iaload, 1) := by decide +kernel
theorem dX10_send_58 : decode cX10_send 58 = .ok (.ifCond .le 6, 3) := by decide +kernel
theorem dX10_send_61 : decode cX10_send 61 = .ok (.goto 62, 3) := by decide +kernel
theorem dX10_send_64 : decode cX10_send 64 = .ok (.aload_n 0, 1) := by decide +kernel
theorem dX10_send_65 : decode cX10_send 65 = .ok (.getfield 15, 3) := by decide +kernel
theorem dX10_send_68 : decode cX10_send 68 = .ok (.iload_n 1, 1) := by decide +kernel
theorem dX10_send_69 : decode cX10_send 69 = .ok (.iload 4, 2) := by decide +kernel
theorem dX10_send_71 : decode cX10_send 71 = .ok (.invokevirtual 90, 3) := by decide +kernel
theorem dX10_send_74 : decode cX10_send 74 = .ok (.ifCond .ne 10, 3) := by decide +kernel
theorem dX10_send_77 : decode cX10_send 77 = .ok (.aload_n 0, 1) := by decide +kernel
theorem dX10_send_78 : decode cX10_send 78 = .ok (.iload_n 1, 1) := by decide +kernel
theorem dX10_send_79 : decode cX10_send 79 = .ok (.iload 4, 2) := by decide +kernel
theorem dX10_send_81 : decode cX10_send 81 = .ok (.invokevirtual 83, 3) := by decide +kernel
theorem dX10_send_84 : decode cX10_send 84 = .ok (.aload_n 0, 1) := by decide +kernel
theorem dX10_send_85 : decode cX10_send 85 = .ok (.getfield 15, 3) := by decide +kernel
theorem dX10_send_88 : decode cX10_send 88 = .ok (.getfield 112, 3) := by decide +kernel
theorem dX10_send_91 : decode cX10_send 91 = .ok (.iload 5, 2) := by decide +kernel
theorem dX10_send_93 : decode cX10_send 93 = .ok (.aload_n 0, 1) := by decide +kernel
theorem dX10_send_94 : decode cX10_send 94 = .ok (.getfield 9, 3) := by decide +kernel
theorem dX10_send_97 : decode cX10_send 97 = .ok (.getfield 70, 3) := by decide +kernel
theorem dX10_send_100 : decode cX10_send 100 = .ok (.iload_n 1, 1) := by decide +kernel
theorem dX10_send_101 : decode cX10_send 101 = .ok (.iaload, 1) := by decide +kernel
theorem dX10_send_102 : decode cX10_send 102 = .ok (.iastore, 1) := by decide +kernel
theorem dX10_send_103 : decode cX10_send 103 = .ok (.aload_n 0, 1) := by decide +kernel
theorem dX10_send_104 : decode cX10_send 104 = .ok (.getfield 15, 3) := by decide +kernel
theorem dX10_send_107 : decode cX10_send 107 = .ok (.dup, 1) := by decide +kernel
theorem dX10_send_108 : decode cX10_send 108 = .ok (.getfield 118, 3) := by decide +kernel
theorem dX10_send_111 : decode cX10_send 111 = .ok (.iconst 1, 1) := by decide +kernel
theorem dX10_send_112 : decode cX10_send 112 = .ok (.iadd, 1) := by decide +kernel
theorem dX10_send_113 : decode cX10_send 113 = .ok (.putfield 118, 3) := by decide +kernel
theorem dX10_send_116 : decode cX10_send 116 = .ok (.iload_n 2, 1) := by decide +kernel
theorem dX10_send_117 : decode cX10_send 117 = .ok (.iconst 1, 1) := by decide +kernel
theorem dX10_send_118 : decode cX10_send 118 = .ok (.iload 4, 2) := by decide +kernel
theorem dX10_send_120 : decode cX10_send 120 = .ok (.ishl, 1) := by decide +kernel
theorem dX10_send_121 : decode cX10_send 121 = .ok (.ior, 1) := by decide +kernel
theorem dX10_send_122 : decode cX10_send 122 = .ok (.istore_n 2, 1) := by decide +kernel
theorem dX10_send_123 : decode cX10_send 123 = .ok (.iinc 4 1, 3) := by decide +kernel
theorem dX10_send_126 : decode cX10_send 126 = .ok (.goto (-103), 3) := by decide +kernel
theorem dX10_send_129 : decode cX10_send 129 = .ok (.iload_n 2, 1) := by decide +kernel
theorem dX10_send_130 : decode cX10_send 130 = .ok (.ireturn, 1) := by decide +kernel
theorem dX10_isLost_0 : decode cX10_isLost 0 = .ok (.aload_n 0, 1) := by decide +kernel
theorem dX10_isLost_1 : decode cX10_isLost 1 = .ok (.getfield 15, 3) := by decide +kernel
theorem dX10_isLost_4 : decode cX10_isLost 4 = .ok (.getfield 203, 3) := by decide +kernel
theorem dX10_isLost_7 : decode cX10_isLost 7 = .ok (.ifCond .ne 5, 3) := by decide +kernel
theorem dX10_isLost_10 : decode cX10_isLost 10 = .ok (.iconst 0, 1) := by decide +kernel
theorem dX10_isLost_11 : decode cX10_isLost 11 = .ok (.ireturn, 1) := by decide +kernel
theorem dX10_isLost_12 : decode cX10_isLost 12 = .ok (.aload_n 0, 1) := by decide +kernel
theorem dX10_isLost_13 : decode cX10_isLost 13 = .ok (.getfield 15, 3) := by decide +kernel
theorem dX10_isLost_16 : decode cX10_isLost 16 = .ok (.ldc2_w 206, 3) := by decide +kernel
theorem dX10_isLost_19 : decode cX10_isLost 19 = .ok (.aload_n 0, 1) := by decide +kernel
theorem dX10_isLost_20 : decode cX10_isLost 20 = .ok (.getfield 15, 3) := by decide +kernel
theorem dX10_isLost_23 : decode cX10_isLost 23 = .ok (.getfield 208, 3) := by decide +kernel
theorem dX10_isLost_26 : decode cX10_isLost 26 = .ok (.i2l, 1) := by decide +kernel
theorem dX10_isLost_27 : decode cX10_isLost 27 = .ok (.lmul, 1) := by decide +kernel
theorem dX10_isLost_28 : decode cX10_isLost 28 = .ok (.ldc2_w 211, 3) := by decide +kernel
theorem dX10_isLost_31 : decode cX10_isLost 31 = .ok (.ladd, 1) := by decide +kernel
theorem dX10_isLost_32 : decode cX10_isLost 32 = .ok (.ldc2_w 213, 3) := by decide +kernel
theorem dX10_isLost_35 : decode cX10_isLost 35 = .ok (.land, 1) := by decide +kernel
theorem dX10_isLost_36 : decode cX10_isLost 36 = .ok (.l2i, 1) := by decide +kernel
theorem dX10_isLost_37 : decode cX10_isLost 37 = .ok (.putfield 208, 3) := by decide +kernel
theorem dX10_isLost_40 : decode cX10_isLost 40 = .ok (.aload_n 0, 1) := by decide +kernel
theorem dX10_isLost_41 : decode cX10_isLost 41 = .ok (.getfield 15, 3) := by decide +kernel
theorem dX10_isLost_44 : decode cX10_isLost 44 = .ok (.getfield 208, 3) := by decide +kernel
theorem dX10_isLost_47 : decode cX10_isLost 47 = .ok (.bipush 64, 2) := by decide +kernel
theorem dX10_isLost_49 : decode cX10_isLost 49 = .ok (.idiv, 1) := by decide +kernel
theorem dX10_isLost_50 : decode cX10_isLost 50 = .ok (.bipush 100, 2) := by decide +kernel
theorem dX10_isLost_52 : decode cX10_isLost 52 = .ok (.irem, 1) := by decide +kernel
theorem dX10_isLost_53 : decode cX10_isLost 53 = .ok (.aload_n 0, 1) := by decide +kernel
theorem dX10_isLost_54 : decode cX10_isLost 54 = .ok (.getfield 15, 3) := by decide +kernel
theorem dX10_isLost_57 : decode cX10_isLost 57 = .ok (.getfield 203, 3) := by decide +kernel
theorem dX10_isLost_60 : decode cX10_isLost 60 = .ok (.if_icmp .ge 7, 3) := by decide +kernel
theorem dX10_isLost_63 : decode cX10_isLost 63 = .ok (.iconst 1, 1) := by decide +kernel
theorem dX10_isLost_64 : decode cX10_isLost 64 = .ok (.goto 4, 3) := by decide +kernel
theorem dX10_isLost_67 : decode cX10_isLost 67 = .ok (.iconst 0, 1) := by decide +kernel
theorem dX10_isLost_68 : decode cX10_isLost 68 = .ok (.istore_n 1, 1) := by decide +kernel
theorem dX10_isLost_69 : decode cX10_isLost 69 = .ok (.aload_n 0, 1) := by decide +kernel
theorem dX10_isLost_70 : decode cX10_isLost 70 = .ok (.getfield 15, 3) := by decide +kernel
theorem dX10_isLost_73 : decode cX10_isLost 73 = .ok (.dup, 1) := by decide +kernel
theorem dX10_isLost_74 : decode cX10_isLost 74 = .ok (.getfield 215, 3) := by decide +kernel
theorem dX10_isLost_77 : decode cX10_isLost 77 = .ok (.iload_n 1, 1) := by decide +kernel
theorem dX10_isLost_78 : decode cX10_isLost 78 = .ok (.ifCond .eq 7, 3) := by decide +kernel
theorem dX10_isLost_81 : decode cX10_isLost 81 = .ok (.iconst 1, 1) := by decide +kernel
theorem dX10_isLost_82 : decode cX10_isLost 82 = .ok (.goto 4, 3) := by decide +kernel
theorem dX10_isLost_85 : decode cX10_isLost 85 = .ok (.iconst 0, 1) := by decide +kernel
theorem dX10_isLost_86 : decode cX10_isLost 86 = .ok (.iadd, 1) := by decide +kernel
theorem dX10_isLost_87 : decode cX10_isLost 87 = .ok (.putfield 215, 3) := by decide +kernel
theorem dX10_isLost_90 : decode cX10_isLost 90 = .ok (.iload_n 1, 1) := by decide +kernel
theorem dX10_isLost_91 : decode cX10_isLost 91 = .ok (.ireturn, 1) := by decide +kernel
theorem dX10_giveUp_0 : decode cX10_giveUp 0 = .ok (.aload_n 0, 1) := by decide +kernel
theorem dX10_giveUp_1 : decode cX10_giveUp 1 = .ok (.getfield 15, 3) := by decide +kernel
theorem dX10_giveUp_4 : decode cX10_giveUp 4 = .ok (.getfield 93, 3) := by decide +kernel
theorem dX10_giveUp_7 : decode cX10_giveUp 7 = .ok (.iload_n 1, 1) := by decide +kernel
theorem dX10_giveUp_8 : decode cX10_giveUp 8 = .ok (.dup2, 1) := by decide +kernel
theorem dX10_giveUp_9 : decode cX10_giveUp 9 = .ok (.iaload, 1) := by decide +kernel
theorem dX10_giveUp_10 : decode cX10_giveUp 10 = .ok (.iconst 1, 1) := by decide +kernel
theorem dX10_giveUp_11 : decode cX10_giveUp 11 = .ok (.iload_n 2, 1) := by decide +kernel
theorem dX10_giveUp_12 : decode cX10_giveUp 12 = .ok (.ishl, 1) := by decide +kernel
theorem dX10_giveUp_13 : decode cX10_giveUp 13 = .ok (.iconst (-1), 1) := by decide +kernel
theorem dX10_giveUp_14 : decode cX10_giveUp 14 = .ok (.ixor, 1) := by decide +kernel
theorem dX10_giveUp_15 : decode cX10_giveUp 15 = .ok (.iand, 1) := by decide +kernel
theorem dX10_giveUp_16 : decode cX10_giveUp 16 = .ok (.iastore, 1) := by decide +kernel
theorem dX10_giveUp_17 : decode cX10_giveUp 17 = .ok (.aload_n 0, 1) := by decide +kernel
theorem dX10_giveUp_18 : decode cX10_giveUp 18 = .ok (.dup, 1) := by decide +kernel
theorem dX10_giveUp_19 : decode cX10_giveUp 19 = .ok (.getfield 137, 3) := by decide +kernel
theorem dX10_giveUp_22 : decode cX10_giveUp 22 = .ok (.iconst 1, 1) := by decide +kernel
theorem dX10_giveUp_23 : decode cX10_giveUp 23 = .ok (.iadd, 1) := by decide +kernel
theorem dX10_giveUp_24 : decode cX10_giveUp 24 = .ok (.putfield 137, 3) := by decide +kernel
theorem dX10_giveUp_27 : decode cX10_giveUp 27 = .ok (.aload_n 0, 1) := by decide +kernel
theorem dX10_giveUp_28 : decode cX10_giveUp 28 = .ok (.getfield 15, 3) := by decide +kernel
theorem dX10_giveUp_31 : decode cX10_giveUp 31 = .ok (.getfield 96, 3) := by decide +kernel
theorem dX10_giveUp_34 : decode cX10_giveUp 34 = .ok (.aload_n 0, 1) := by decide +kernel
theorem dX10_giveUp_35 : decode cX10_giveUp 35 = .ok (.getfield 15, 3) := by decide +kernel
theorem dX10_giveUp_38 : decode cX10_giveUp 38 = .ok (.getfield 100, 3) := by decide +kernel
theorem dX10_giveUp_41 : decode cX10_giveUp 41 = .ok (.iload_n 1, 1) := by decide +kernel
theorem dX10_giveUp_42 : decode cX10_giveUp 42 = .ok (.iload_n 2, 1) := by decide +kernel
theorem dX10_giveUp_43 : decode cX10_giveUp 43 = .ok (.iconst 1, 1) := by decide +kernel
theorem dX10_giveUp_44 : decode cX10_giveUp 44 = .ok (.invokevirtual 103, 3) := by decide +kernel
theorem dX10_giveUp_47 : decode cX10_giveUp 47 = .ok (.return_, 1) := by decide +kernel
theorem dX10_readLetter_0 : decode cX10_readLetter 0 = .ok (.iload_n 1, 1) := by decide +kernel
theorem dX10_readLetter_1 : decode cX10_readLetter 1 = .ok (.bipush 6, 2) := by decide +kernel
theorem dX10_readLetter_3 : decode cX10_readLetter 3 = .ok (.imul, 1) := by decide +kernel
theorem dX10_readLetter_4 : decode cX10_readLetter 4 = .ok (.iload_n 3, 1) := by decide +kernel
theorem dX10_readLetter_5 : decode cX10_readLetter 5 = .ok (.iadd, 1) := by decide +kernel
theorem dX10_readLetter_6 : decode cX10_readLetter 6 = .ok (.istore 4, 2) := by decide +kernel
theorem dX10_readLetter_8 : decode cX10_readLetter 8 = .ok (.aload_n 0, 1) := by decide +kernel
theorem dX10_readLetter_9 : decode cX10_readLetter 9 = .ok (.getfield 15, 3) := by decide +kernel
theorem dX10_readLetter_12 : decode cX10_readLetter 12 = .ok (.getfield 64, 3) := by decide +kernel
theorem dX10_readLetter_15 : decode cX10_readLetter 15 = .ok (.iload_n 1, 1) := by decide +kernel
theorem dX10_readLetter_16 : decode cX10_readLetter 16 = .ok (.bipush 6, 2) := by decide +kernel
theorem dX10_readLetter_18 : decode cX10_readLetter 18 = .ok (.imul, 1) := by decide +kernel
theorem dX10_readLetter_19 : decode cX10_readLetter 19 = .ok (.iload_n 2, 1) := by decide +kernel
theorem dX10_readLetter_20 : decode cX10_readLetter 20 = .ok (.iadd, 1) := by decide +kernel
theorem dX10_readLetter_21 : decode cX10_readLetter 21 = .ok (.iaload, 1) := by decide +kernel
theorem dX10_readLetter_22 : decode cX10_readLetter 22 = .ok (.istore 5, 2) := by decide +kernel
theorem dX10_readLetter_24 : decode cX10_readLetter 24 = .ok (.iload 5, 2) := by decide +kernel
theorem dX10_readLetter_26 : decode cX10_readLetter 26 = .ok (.aload_n 0, 1) := by decide +kernel
theorem dX10_readLetter_27 : decode cX10_readLetter 27 = .ok (.getfield 15, 3) := by decide +kernel
theorem dX10_readLetter_30 : decode cX10_readLetter 30 = .ok (.getfield 64, 3) := by decide +kernel
theorem dX10_readLetter_33 : decode cX10_readLetter 33 = .ok (.iload 4, 2) := by decide +kernel
theorem dX10_readLetter_35 : decode cX10_readLetter 35 = .ok (.iaload, 1) := by decide +kernel
theorem dX10_readLetter_36 : decode cX10_readLetter 36 = .ok (.if_icmp .gt 23, 3) := by decide +kernel
theorem dX10_readLetter_39 : decode cX10_readLetter 39 = .ok (.iload 5, 2) := by decide +kernel
theorem dX10_readLetter_41 : decode cX10_readLetter 41 = .ok (.aload_n 0, 1) := by decide +kernel
theorem dX10_readLetter_42 : decode cX10_readLetter 42 = .ok (.getfield 15, 3) := by decide +kernel
theorem dX10_readLetter_45 : decode cX10_readLetter 45 = .ok (.getfield 64, 3) := by decide +kernel
theorem dX10_readLetter_48 : decode cX10_readLetter 48 = .ok (.iload 4, 2) := by decide +kernel
theorem dX10_readLetter_50 : decode cX10_readLetter 50 = .ok (.iaload, 1) := by decide +kernel
theorem dX10_readLetter_51 : decode cX10_readLetter 51 = .ok (.if_icmp .ne 12, 3) := by decide +kernel
theorem dX10_readLetter_54 : decode cX10_readLetter 54 = .ok (.iload_n 2, 1) := by decide +kernel
theorem dX10_readLetter_55 : decode cX10_readLetter 55 = .ok (.iload_n 3, 1) := by decide +kernel
theorem dX10_readLetter_56 : decode cX10_readLetter 56 = .ok (.if_icmp .le 7, 3) := by decide +kernel
theorem dX10_readLetter_59 : decode cX10_readLetter 59 = .ok (.iconst 1, 1) := by decide +kernel
theorem dX10_readLetter_60 : decode cX10_readLetter 60 = .ok (.goto 4, 3) := by decide +kernel
theorem dX10_readLetter_63 : decode cX10_readLetter 63 = .ok (.iconst 0, 1) := by decide +kernel
theorem dX10_readLetter_64 : decode cX10_readLetter 64 = .ok (.istore 6, 2) := by decide +kernel
theorem dX10_readLetter_66 : decode cX10_readLetter 66 = .ok (.aload_n 0, 1) := by decide +kernel
theorem dX10_readLetter_67 : decode cX10_readLetter 67 = .ok (.getfield 15, 3) := by decide +kernel
theorem dX10_readLetter_70 : decode cX10_readLetter 70 = .ok (.iload_n 1, 1) := by decide +kernel
theorem dX10_readLetter_71 : decode cX10_readLetter 71 = .ok (.iload_n 3, 1) := by decide +kernel
theorem dX10_readLetter_72 : decode cX10_readLetter 72 = .ok (.invokevirtual 90, 3) := by decide +kernel
theorem dX10_readLetter_75 : decode cX10_readLetter 75 = .ok (.istore 7, 2) := by decide +kernel
theorem dX10_readLetter_77 : decode cX10_readLetter 77 = .ok (.iload 7, 2) := by decide +kernel
theorem dX10_readLetter_79 : decode cX10_readLetter 79 = .ok (.ifCond .eq 9, 3) := by decide +kernel
theorem dX10_readLetter_82 : decode cX10_readLetter 82 = .ok (.iload 6, 2) := by decide +kernel
theorem dX10_readLetter_84 : decode cX10_readLetter 84 = .ok (.ifCond .ne 4, 3) := by decide +kernel
theorem dX10_readLetter_87 : decode cX10_readLetter 87 = .ok (.return_, 1) := by decide +kernel
theorem dX10_readLetter_88 : decode cX10_readLetter 88 = .ok (.iload 7, 2) := by decide +kernel
theorem dX10_readLetter_90 : decode cX10_readLetter 90 = .ok (.ifCond .eq 9, 3) := by decide +kernel
theorem dX10_readLetter_93 : decode cX10_readLetter 93 = .ok (.aload_n 0, 1) := by decide +kernel
theorem dX10_readLetter_94 : decode cX10_readLetter 94 = .ok (.iload_n 1, 1) := by decide +kernel
theorem dX10_readLetter_95 : decode cX10_readLetter 95 = .ok (.iload_n 3, 1) := by decide +kernel
theorem dX10_readLetter_96 : decode cX10_readLetter 96 = .ok (.invokevirtual 218, 3) := by decide +kernel
theorem dX10_readLetter_99 : decode cX10_readLetter 99 = .ok (.iload 6, 2) := by decide +kernel
theorem dX10_readLetter_101 : decode cX10_readLetter 101 = .ok (.ifCond .ne 16, 3) := by decide +kernel
theorem dX10_readLetter_104 : decode cX10_readLetter 104 = .ok (.aload_n 0, 1) := by decide +kernel
theorem dX10_readLetter_105 : decode cX10_readLetter 105 = .ok (.getfield 9, 3) := by decide +kernel
theorem dX10_readLetter_108 : decode cX10_readLetter 108 = .ok (.getfield 221, 3) := by decide +kernel
theorem dX10_readLetter_111 : decode cX10_readLetter 111 = .ok (.iload_n 1, 1) := by decide +kernel
theorem dX10_readLetter_112 : decode cX10_readLetter 112 = .ok (.iaload, 1) := by decide +kernel
theorem dX10_readLetter_113 : decode cX10_readLetter 113 = .ok (.iconst 1, 1) := by decide +kernel
theorem dX10_readLetter_114 : decode cX10_readLetter 114 = .ok (.if_icmp .ne 10, 3) := by decide +kernel
theorem dX10_readLetter_117 : decode cX10_readLetter 117 = .ok (.aload_n 0, 1) := by decide +kernel
theorem dX10_readLetter_118 : decode cX10_readLetter 118 = .ok (.iload_n 1, 1) := by decide +kernel
theorem dX10_readLetter_119 : decode cX10_readLetter 119 = .ok (.iload_n 3, 1) := by decide +kernel
theorem dX10_readLetter_120 : decode cX10_readLetter 120 = .ok (.invokevirtual 87, 3) := by decide +kernel
theorem dX10_readLetter_123 : decode cX10_readLetter 123 = .ok (.return_, 1) := by decide +kernel
theorem dX10_readLetter_124 : decode cX10_readLetter 124 = .ok (.aload_n 0, 1) := by decide +kernel
theorem dX10_readLetter_125 : decode cX10_readLetter 125 = .ok (.getfield 15, 3) := by decide +kernel
theorem dX10_readLetter_128 : decode cX10_readLetter 128 = .ok (.getfield 115, 3) := by decide +kernel
theorem dX10_readLetter_131 : decode cX10_readLetter 131 = .ok (.iload 4, 2) := by decide +kernel
theorem dX10_readLetter_133 : decode cX10_readLetter 133 = .ok (.iaload, 1) := by decide +kernel
theorem dX10_readLetter_134 : decode cX10_readLetter 134 = .ok (.iconst (-1), 1) := by decide +kernel
theorem dX10_readLetter_135 : decode cX10_readLetter 135 = .ok (.if_icmp .ne 20, 3) := by decide +kernel
theorem dX10_readLetter_138 : decode cX10_readLetter 138 = .ok (.aload_n 0, 1) := by decide +kernel
theorem dX10_readLetter_139 : decode cX10_readLetter 139 = .ok (.getfield 15, 3) := by decide +kernel
theorem dX10_readLetter_142 : decode cX10_readLetter 142 = .ok (.getfield 115, 3) := by decide +kernel
theorem dX10_readLetter_145 : decode cX10_readLetter 145 = .ok (.iload 4, 2) := by decide +kernel
theorem dX10_readLetter_147 : decode cX10_readLetter 147 = .ok (.aload_n 0, 1) := by decide +kernel
theorem dX10_readLetter_148 : decode cX10_readLetter 148 = .ok (.getfield 15, 3) := by decide +kernel
theorem dX10_readLetter_151 : decode cX10_readLetter 151 = .ok (.getfield 100, 3) := by decide +kernel
theorem dX10_readLetter_154 : decode cX10_readLetter 154 = .ok (.iastore, 1) := by decide +kernel
theorem dX10_readLetter_155 : decode cX10_readLetter 155 = .ok (.aload_n 0, 1) := by decide +kernel
theorem dX10_readLetter_156 : decode cX10_readLetter 156 = .ok (.getfield 15, 3) := by decide +kernel
theorem dX10_readLetter_159 : decode cX10_readLetter 159 = .ok (.getfield 100, 3) := by decide +kernel
theorem dX10_readLetter_162 : decode cX10_readLetter 162 = .ok (.aload_n 0, 1) := by decide +kernel
theorem dX10_readLetter_163 : decode cX10_readLetter 163 = .ok (.getfield 15, 3) := by decide +kernel
theorem dX10_readLetter_166 : decode cX10_readLetter 166 = .ok (.getfield 115, 3) := by decide +kernel
theorem dX10_readLetter_169 : decode cX10_readLetter 169 = .ok (.iload 4, 2) := by decide +kernel
theorem dX10_readLetter_171 : decode cX10_readLetter 171 = .ok (.iaload, 1) := by decide +kernel
theorem dX10_readLetter_172 : decode cX10_readLetter 172 = .ok (.isub, 1) := by decide +kernel
theorem dX10_readLetter_173 : decode cX10_readLetter 173 = .ok (.aload_n 0, 1) := by decide +kernel
theorem dX10_readLetter_174 : decode cX10_readLetter 174 = .ok (.getfield 9, 3) := by decide +kernel
theorem dX10_readLetter_177 : decode cX10_readLetter 177 = .ok (.getfield 224, 3) := by decide +kernel
theorem dX10_readLetter_180 : decode cX10_readLetter 180 = .ok (.iload_n 1, 1) := by decide +kernel
theorem dX10_readLetter_181 : decode cX10_readLetter 181 = .ok (.iaload, 1) := by decide +kernel
theorem dX10_readLetter_182 : decode cX10_readLetter 182 = .ok (.if_icmp .lt 12, 3) := by decide +kernel
theorem dX10_readLetter_185 : decode cX10_readLetter 185 = .ok (.aload_n 0, 1) := by decide +kernel
theorem dX10_readLetter_186 : decode cX10_readLetter 186 = .ok (.iload_n 1, 1) := by decide +kernel
theorem dX10_readLetter_187 : decode cX10_readLetter 187 = .ok (.iload_n 3, 1) := by decide +kernel
theorem dX10_readLetter_188 : decode cX10_readLetter 188 = .ok (.invokevirtual 83, 3) := by decide +kernel
theorem dX10_readLetter_191 : decode cX10_readLetter 191 = .ok (.goto 31, 3) := by decide +kernel
theorem dX10_readLetter_194 : decode cX10_readLetter 194 = .ok (.aload_n 0, 1) := by decide +kernel
theorem dX10_readLetter_195 : decode cX10_readLetter 195 = .ok (.getfield 15, 3) := by decide +kernel
theorem dX10_readLetter_198 : decode cX10_readLetter 198 = .ok (.getfield 112, 3) := by decide +kernel
theorem dX10_readLetter_201 : decode cX10_readLetter 201 = .ok (.iload 4, 2) := by decide +kernel
theorem dX10_readLetter_203 : decode cX10_readLetter 203 = .ok (.aload_n 0, 1) := by decide +kernel
theorem dX10_readLetter_204 : decode cX10_readLetter 204 = .ok (.getfield 9, 3) := by decide +kernel
theorem dX10_readLetter_207 : decode cX10_readLetter 207 = .ok (.iload_n 1, 1) := by decide +kernel
theorem dX10_readLetter_208 : decode cX10_readLetter 208 = .ok (.aload_n 0, 1) := by decide +kernel
theorem dX10_readLetter_209 : decode cX10_readLetter 209 = .ok (.getfield 15, 3) := by decide +kernel
theorem dX10_readLetter_212 : decode cX10_readLetter 212 = .ok (.getfield 67, 3) := by decide +kernel
theorem dX10_readLetter_215 : decode cX10_readLetter 215 = .ok (.iload 4, 2) := by decide +kernel
theorem dX10_readLetter_217 : decode cX10_readLetter 217 = .ok (.iaload, 1) := by decide +kernel
theorem dX10_readLetter_218 : decode cX10_readLetter 218 = .ok (.invokevirtual 140, 3) := by decide +kernel
theorem dX10_readLetter_221 : decode cX10_readLetter 221 = .ok (.iastore, 1) := by decide +kernel
theorem dX10_readLetter_222 : decode cX10_readLetter 222 = .ok (.return_, 1) := by decide +kernel
theorem dX10_deliver_0 : decode cX10_deliver 0 = .ok (.iconst 0, 1) := by decide +kernel
theorem dX10_deliver_1 : decode cX10_deliver 1 = .ok (.istore_n 3, 1) := by decide +kernel
theorem dX10_deliver_2 : decode cX10_deliver 2 = .ok (.iload_n 3, 1) := by decide +kernel
theorem dX10_deliver_3 : decode cX10_deliver 3 = .ok (.bipush 6, 2) := by decide +kernel
theorem dX10_deliver_5 : decode cX10_deliver 5 = .ok (.if_icmp .ge 96, 3) := by decide +kernel
theorem dX10_deliver_8 : decode cX10_deliver 8 = .ok (.iload_n 2, 1) := by decide +kernel
theorem dX10_deliver_9 : decode cX10_deliver 9 = .ok (.iload_n 3, 1) := by decide +kernel
theorem dX10_deliver_10 : decode cX10_deliver 10 = .ok (.ishr, 1) := by decide +kernel
theorem dX10_deliver_11 : decode cX10_deliver 11 = .ok (.iconst 1, 1) := by decide +kernel
theorem dX10_deliver_12 : decode cX10_deliver 12 = .ok (.iand, 1) := by decide +kernel
theorem dX10_deliver_13 : decode cX10_deliver 13 = .ok (.ifCond .ne 6, 3) := by decide +kernel
theorem dX10_deliver_16 : decode cX10_deliver 16 = .ok (.goto 79, 3) := by decide +kernel
theorem dX10_deliver_19 : decode cX10_deliver 19 = .ok (.aload_n 0, 1) := by decide +kernel
theorem dX10_deliver_20 : decode cX10_deliver 20 = .ok (.getfield 9, 3) := by decide +kernel
theorem dX10_deliver_23 : decode cX10_deliver 23 = .ok (.getfield 80, 3) := by decide +kernel
theorem dX10_deliver_26 : decode cX10_deliver 26 = .ok (.iload_n 1, 1) := by decide +kernel
theorem dX10_deliver_27 : decode cX10_deliver 27 = .ok (.iaload, 1) := by decide +kernel
theorem dX10_deliver_28 : decode cX10_deliver 28 = .ok (.aload_n 0, 1) := by decide +kernel
theorem dX10_deliver_29 : decode cX10_deliver 29 = .ok (.getfield 15, 3) := by decide +kernel
theorem dX10_deliver_32 : decode cX10_deliver 32 = .ok (.getfield 77, 3) := by decide +kernel
theorem dX10_deliver_35 : decode cX10_deliver 35 = .ok (.iand, 1) := by decide +kernel
theorem dX10_deliver_36 : decode cX10_deliver 36 = .ok (.aload_n 0, 1) := by decide +kernel
theorem dX10_deliver_37 : decode cX10_deliver 37 = .ok (.getfield 15, 3) := by decide +kernel
theorem dX10_deliver_40 : decode cX10_deliver 40 = .ok (.iload_n 3, 1) := by decide +kernel
theorem dX10_deliver_41 : decode cX10_deliver 41 = .ok (.invokevirtual 121, 3) := by decide +kernel
theorem dX10_deliver_44 : decode cX10_deliver 44 = .ok (.iand, 1) := by decide +kernel
theorem dX10_deliver_45 : decode cX10_deliver 45 = .ok (.iconst 1, 1) := by decide +kernel
theorem dX10_deliver_46 : decode cX10_deliver 46 = .ok (.iload_n 3, 1) := by decide +kernel
theorem dX10_deliver_47 : decode cX10_deliver 47 = .ok (.ishl, 1) := by decide +kernel
theorem dX10_deliver_48 : decode cX10_deliver 48 = .ok (.iconst (-1), 1) := by decide +kernel
theorem dX10_deliver_49 : decode cX10_deliver 49 = .ok (.ixor, 1) := by decide +kernel
theorem dX10_deliver_50 : decode cX10_deliver 50 = .ok (.iand, 1) := by decide +kernel
theorem dX10_deliver_51 : decode cX10_deliver 51 = .ok (.istore 4, 2) := by decide +kernel
theorem dX10_deliver_53 : decode cX10_deliver 53 = .ok (.iconst 0, 1) := by decide +kernel
theorem dX10_deliver_54 : decode cX10_deliver 54 = .ok (.istore 5, 2) := by decide +kernel
theorem dX10_deliver_56 : decode cX10_deliver 56 = .ok (.iload 5, 2) := by decide +kernel
theorem dX10_deliver_58 : decode cX10_deliver 58 = .ok (.bipush 6, 2) := by decide +kernel
theorem dX10_deliver_60 : decode cX10_deliver 60 = .ok (.if_icmp .ge 35, 3) := by decide +kernel
theorem dX10_deliver_63 : decode cX10_deliver 63 = .ok (.iload 4, 2) := by decide +kernel
theorem dX10_deliver_65 : decode cX10_deliver 65 = .ok (.iload 5, 2) := by decide +kernel
theorem dX10_deliver_67 : decode cX10_deliver 67 = .ok (.ishr, 1) := by decide +kernel
theorem dX10_deliver_68 : decode cX10_deliver 68 = .ok (.iconst 1, 1) := by decide +kernel
theorem dX10_deliver_69 : decode cX10_deliver 69 = .ok (.iand, 1) := by decide +kernel
theorem dX10_deliver_70 : decode cX10_deliver 70 = .ok (.iconst 1, 1) := by decide +kernel
theorem dX10_deliver_71 : decode cX10_deliver 71 = .ok (.if_icmp .ne 18, 3) := by decide +kernel
theorem dX10_deliver_74 : decode cX10_deliver 74 = .ok (.aload_n 0, 1) := by decide +kernel
theorem dX10_deliver_75 : decode cX10_deliver 75 = .ok (.invokevirtual 196, 3) := by decide +kernel
theorem dX10_deliver_78 : decode cX10_deliver 78 = .ok (.ifCond .ne 11, 3) := by decide +kernel
theorem dX10_deliver_81 : decode cX10_deliver 81 = .ok (.aload_n 0, 1) := by decide +kernel
theorem dX10_deliver_82 : decode cX10_deliver 82 = .ok (.iload_n 1, 1) := by decide +kernel
theorem dX10_deliver_83 : decode cX10_deliver 83 = .ok (.iload_n 3, 1) := by decide +kernel
theorem dX10_deliver_84 : decode cX10_deliver 84 = .ok (.iload 5, 2) := by decide +kernel
theorem dX10_deliver_86 : decode cX10_deliver 86 = .ok (.invokevirtual 200, 3) := by decide +kernel
theorem dX10_deliver_89 : decode cX10_deliver 89 = .ok (.iinc 5 1, 3) := by decide +kernel
theorem dX10_deliver_92 : decode cX10_deliver 92 = .ok (.goto (-36), 3) := by decide +kernel
theorem dX10_deliver_95 : decode cX10_deliver 95 = .ok (.iinc 3 1, 3) := by decide +kernel
theorem dX10_deliver_98 : decode cX10_deliver 98 = .ok (.goto (-96), 3) := by decide +kernel
theorem dX10_deliver_101 : decode cX10_deliver 101 = .ok (.return_, 1) := by decide +kernel
theorem dX10_step_0 : decode cX10_step 0 = .ok (.aload_n 0, 1) := by decide +kernel
theorem dX10_step_1 : decode cX10_step 1 = .ok (.iload_n 1, 1) := by decide +kernel
theorem dX10_step_2 : decode cX10_step 2 = .ok (.invokevirtual 146, 3) := by decide +kernel
theorem dX10_step_5 : decode cX10_step 5 = .ok (.istore_n 2, 1) := by decide +kernel
theorem dX10_step_6 : decode cX10_step 6 = .ok (.iload_n 2, 1) := by decide +kernel
theorem dX10_step_7 : decode cX10_step 7 = .ok (.ifCond .le 10, 3) := by decide +kernel
theorem dX10_step_10 : decode cX10_step 10 = .ok (.aload_n 0, 1) := by decide +kernel
theorem dX10_step_11 : decode cX10_step 11 = .ok (.iload_n 2, 1) := by decide +kernel
theorem dX10_step_12 : decode cX10_step 12 = .ok (.invokevirtual 149, 3) := by decide +kernel
theorem dX10_step_15 : decode cX10_step 15 = .ok (.iload_n 2, 1) := by decide +kernel
theorem dX10_step_16 : decode cX10_step 16 = .ok (.ireturn, 1) := by decide +kernel
theorem dX10_step_17 : decode cX10_step 17 = .ok (.aload_n 0, 1) := by decide +kernel
theorem dX10_step_18 : decode cX10_step 18 = .ok (.invokevirtual 152, 3) := by decide +kernel
theorem dX10_step_21 : decode cX10_step 21 = .ok (.aload_n 0, 1) := by decide +kernel
theorem dX10_step_22 : decode cX10_step 22 = .ok (.getfield 19, 3) := by decide +kernel
theorem dX10_step_25 : decode cX10_step 25 = .ok (.istore_n 3, 1) := by decide +kernel
theorem dX10_step_26 : decode cX10_step 26 = .ok (.iload_n 3, 1) := by decide +kernel
theorem dX10_step_27 : decode cX10_step 27 = .ok (.aload_n 0, 1) := by decide +kernel
theorem dX10_step_28 : decode cX10_step 28 = .ok (.getfield 29, 3) := by decide +kernel
theorem dX10_step_31 : decode cX10_step 31 = .ok (.if_icmp .gt 35, 3) := by decide +kernel
theorem dX10_step_34 : decode cX10_step 34 = .ok (.aload_n 0, 1) := by decide +kernel
theorem dX10_step_35 : decode cX10_step 35 = .ok (.iload_n 3, 1) := by decide +kernel
theorem dX10_step_36 : decode cX10_step 36 = .ok (.invokevirtual 155, 3) := by decide +kernel
theorem dX10_step_39 : decode cX10_step 39 = .ok (.istore 4, 2) := by decide +kernel
theorem dX10_step_41 : decode cX10_step 41 = .ok (.aload_n 0, 1) := by decide +kernel
theorem dX10_step_42 : decode cX10_step 42 = .ok (.iload_n 3, 1) := by decide +kernel
theorem dX10_step_43 : decode cX10_step 43 = .ok (.iconst 1, 1) := by decide +kernel
theorem dX10_step_44 : decode cX10_step 44 = .ok (.invokevirtual 158, 3) := by decide +kernel
theorem dX10_step_47 : decode cX10_step 47 = .ok (.aload_n 0, 1) := by decide +kernel
theorem dX10_step_48 : decode cX10_step 48 = .ok (.iload_n 3, 1) := by decide +kernel
theorem dX10_step_49 : decode cX10_step 49 = .ok (.iload 4, 2) := by decide +kernel
theorem dX10_step_51 : decode cX10_step 51 = .ok (.invokevirtual 161, 3) := by decide +kernel
theorem dX10_step_54 : decode cX10_step 54 = .ok (.aload_n 0, 1) := by decide +kernel
theorem dX10_step_55 : decode cX10_step 55 = .ok (.iload_n 3, 1) := by decide +kernel
theorem dX10_step_56 : decode cX10_step 56 = .ok (.iconst 1, 1) := by decide +kernel
theorem dX10_step_57 : decode cX10_step 57 = .ok (.invokevirtual 164, 3) := by decide +kernel
theorem dX10_step_60 : decode cX10_step 60 = .ok (.iinc 3 1, 3) := by decide +kernel
theorem dX10_step_63 : decode cX10_step 63 = .ok (.goto (-37), 3) := by decide +kernel
theorem dX10_step_66 : decode cX10_step 66 = .ok (.aload_n 0, 1) := by decide +kernel
theorem dX10_step_67 : decode cX10_step 67 = .ok (.getfield 15, 3) := by decide +kernel
theorem dX10_step_70 : decode cX10_step 70 = .ok (.dup, 1) := by decide +kernel
theorem dX10_step_71 : decode cX10_step 71 = .ok (.getfield 100, 3) := by decide +kernel
theorem dX10_step_74 : decode cX10_step 74 = .ok (.iconst 1, 1) := by decide +kernel
theorem dX10_step_75 : decode cX10_step 75 = .ok (.iadd, 1) := by decide +kernel
theorem dX10_step_76 : decode cX10_step 76 = .ok (.putfield 100, 3) := by decide +kernel
theorem dX10_step_79 : decode cX10_step 79 = .ok (.iconst 1, 1) := by decide +kernel
theorem dX10_step_80 : decode cX10_step 80 = .ok (.ireturn, 1) := by decide +kernel
theorem dX10_run_0 : decode cX10_run 0 = .ok (.iconst 0, 1) := by decide +kernel
theorem dX10_run_1 : decode cX10_run 1 = .ok (.istore_n 2, 1) := by decide +kernel
theorem dX10_run_2 : decode cX10_run 2 = .ok (.iload_n 2, 1) := by decide +kernel
theorem dX10_run_3 : decode cX10_run 3 = .ok (.iload_n 1, 1) := by decide +kernel
theorem dX10_run_4 : decode cX10_run 4 = .ok (.if_icmp .ge 20, 3) := by decide +kernel
theorem dX10_run_7 : decode cX10_run 7 = .ok (.iload_n 2, 1) := by decide +kernel
theorem dX10_run_8 : decode cX10_run 8 = .ok (.aload_n 0, 1) := by decide +kernel
theorem dX10_run_9 : decode cX10_run 9 = .ok (.iload_n 1, 1) := by decide +kernel
theorem dX10_run_10 : decode cX10_run 10 = .ok (.iload_n 2, 1) := by decide +kernel
theorem dX10_run_11 : decode cX10_run 11 = .ok (.isub, 1) := by decide +kernel
theorem dX10_run_12 : decode cX10_run 12 = .ok (.invokevirtual 143, 3) := by decide +kernel
theorem dX10_run_15 : decode cX10_run 15 = .ok (.iconst 1, 1) := by decide +kernel
theorem dX10_run_16 : decode cX10_run 16 = .ok (.invokestatic 125, 3) := by decide +kernel
theorem dX10_run_19 : decode cX10_run 19 = .ok (.iadd, 1) := by decide +kernel
theorem dX10_run_20 : decode cX10_run 20 = .ok (.istore_n 2, 1) := by decide +kernel
theorem dX10_run_21 : decode cX10_run 21 = .ok (.goto (-19), 3) := by decide +kernel
theorem dX10_run_24 : decode cX10_run 24 = .ok (.return_, 1) := by decide +kernel
theorem dX10_begin_0 : decode cX10_begin 0 = .ok (.aload_n 0, 1) := by decide +kernel
theorem dX10_begin_1 : decode cX10_begin 1 = .ok (.invokevirtual 32, 3) := by decide +kernel
theorem dX10_begin_4 : decode cX10_begin 4 = .ok (.aload_n 0, 1) := by decide +kernel
theorem dX10_begin_5 : decode cX10_begin 5 = .ok (.getfield 15, 3) := by decide +kernel
theorem dX10_begin_8 : decode cX10_begin 8 = .ok (.aload_n 0, 1) := by decide +kernel
theorem dX10_begin_9 : decode cX10_begin 9 = .ok (.getfield 9, 3) := by decide +kernel
theorem dX10_begin_12 : decode cX10_begin 12 = .ok (.getfield 35, 3) := by decide +kernel
theorem dX10_begin_15 : decode cX10_begin 15 = .ok (.invokevirtual 38, 3) := by decide +kernel
theorem dX10_begin_18 : decode cX10_begin 18 = .ok (.aload_n 0, 1) := by decide +kernel
theorem dX10_begin_19 : decode cX10_begin 19 = .ok (.iconst 0, 1) := by decide +kernel
theorem dX10_begin_20 : decode cX10_begin 20 = .ok (.invokevirtual 44, 3) := by decide +kernel
theorem dX10_begin_23 : decode cX10_begin 23 = .ok (.aload_n 0, 1) := by decide +kernel
theorem dX10_begin_24 : decode cX10_begin 24 = .ok (.iconst 1, 1) := by decide +kernel
theorem dX10_begin_25 : decode cX10_begin 25 = .ok (.aload_n 0, 1) := by decide +kernel
theorem dX10_begin_26 : decode cX10_begin 26 = .ok (.getfield 9, 3) := by decide +kernel
theorem dX10_begin_29 : decode cX10_begin 29 = .ok (.getfield 23, 3) := by decide +kernel
theorem dX10_begin_32 : decode cX10_begin 32 = .ok (.iconst 0, 1) := by decide +kernel
theorem dX10_begin_33 : decode cX10_begin 33 = .ok (.iaload, 1) := by decide +kernel
theorem dX10_begin_34 : decode cX10_begin 34 = .ok (.ishl, 1) := by decide +kernel
theorem dX10_begin_35 : decode cX10_begin 35 = .ok (.iconst 1, 1) := by decide +kernel
theorem dX10_begin_36 : decode cX10_begin 36 = .ok (.isub, 1) := by decide +kernel
theorem dX10_begin_37 : decode cX10_begin 37 = .ok (.invokevirtual 48, 3) := by decide +kernel
theorem dX10_begin_40 : decode cX10_begin 40 = .ok (.return_, 1) := by decide +kernel
