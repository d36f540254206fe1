theorem dX7_readWord_0 : decode cX7_readWord 0 = .ok (.aload_n 0, 1) := by decide +kernel
theorem dX7_readWord_1 : decode cX7_readWord 1 = .ok (.iconst 0, 1) := by decide +kernel
theorem dX7_readWord_2 : decode cX7_readWord 2 = .ok (.putfield 57, 3) := by decide +kernel
theorem dX7_readWord_5 : decode cX7_readWord 5 = .ok (.aload_n 0, 1) := by decide +kernel
theorem dX7_readWord_6 : decode cX7_readWord 6 = .ok (.getfield 36, 3) := by decide +kernel
theorem dX7_readWord_9 : decode cX7_readWord 9 = .ok (.aload_n 0, 1) := by decide +kernel
theorem dX7_readWord_10 : decode cX7_readWord 10 = .ok (.getfield 34, 3) := by decide +kernel
theorem dX7_readWord_13 : decode cX7_readWord 13 = .ok (.if_icmp .ge 93, 3) := by decide +kernel
theorem dX7_readWord_16 : decode cX7_readWord 16 = .ok (.aload_n 0, 1) := by decide +kernel
theorem dX7_readWord_17 : decode cX7_readWord 17 = .ok (.getfield 9, 3) := by decide +kernel
theorem dX7_readWord_20 : decode cX7_readWord 20 = .ok (.aload_n 0, 1) := by decide +kernel
theorem dX7_readWord_21 : decode cX7_readWord 21 = .ok (.getfield 36, 3) := by decide +kernel
theorem dX7_readWord_24 : decode cX7_readWord 24 = .ok (.iaload, 1) := by decide +kernel
theorem dX7_readWord_25 : decode cX7_readWord 25 = .ok (.bipush 97, 2) := by decide +kernel
theorem dX7_readWord_27 : decode cX7_readWord 27 = .ok (.if_icmp .lt 79, 3) := by decide +kernel
theorem dX7_readWord_30 : decode cX7_readWord 30 = .ok (.aload_n 0, 1) := by decide +kernel
theorem dX7_readWord_31 : decode cX7_readWord 31 = .ok (.getfield 9, 3) := by decide +kernel
theorem dX7_readWord_34 : decode cX7_readWord 34 = .ok (.aload_n 0, 1) := by decide +kernel
theorem dX7_readWord_35 : decode cX7_readWord 35 = .ok (.getfield 36, 3) := by decide +kernel
theorem dX7_readWord_38 : decode cX7_readWord 38 = .ok (.iaload, 1) := by decide +kernel
theorem dX7_readWord_39 : decode cX7_readWord 39 = .ok (.bipush 122, 2) := by decide +kernel
theorem dX7_readWord_41 : decode cX7_readWord 41 = .ok (.if_icmp .gt 65, 3) := by decide +kernel
theorem dX7_readWord_44 : decode cX7_readWord 44 = .ok (.aload_n 0, 1) := by decide +kernel
theorem dX7_readWord_45 : decode cX7_readWord 45 = .ok (.getfield 36, 3) := by decide +kernel
theorem dX7_readWord_48 : decode cX7_readWord 48 = .ok (.aload_n 0, 1) := by decide +kernel
theorem dX7_readWord_49 : decode cX7_readWord 49 = .ok (.getfield 48, 3) := by decide +kernel
theorem dX7_readWord_52 : decode cX7_readWord 52 = .ok (.isub, 1) := by decide +kernel
theorem dX7_readWord_53 : decode cX7_readWord 53 = .ok (.bipush 6, 2) := by decide +kernel
theorem dX7_readWord_55 : decode cX7_readWord 55 = .ok (.if_icmp .ge 38, 3) := by decide +kernel
theorem dX7_readWord_58 : decode cX7_readWord 58 = .ok (.aload_n 0, 1) := by decide +kernel
theorem dX7_readWord_59 : decode cX7_readWord 59 = .ok (.dup, 1) := by decide +kernel
theorem dX7_readWord_60 : decode cX7_readWord 60 = .ok (.getfield 57, 3) := by decide +kernel
theorem dX7_readWord_63 : decode cX7_readWord 63 = .ok (.aload_n 0, 1) := by decide +kernel
theorem dX7_readWord_64 : decode cX7_readWord 64 = .ok (.getfield 9, 3) := by decide +kernel
theorem dX7_readWord_67 : decode cX7_readWord 67 = .ok (.aload_n 0, 1) := by decide +kernel
theorem dX7_readWord_68 : decode cX7_readWord 68 = .ok (.getfield 36, 3) := by decide +kernel
theorem dX7_readWord_71 : decode cX7_readWord 71 = .ok (.iaload, 1) := by decide +kernel
theorem dX7_readWord_72 : decode cX7_readWord 72 = .ok (.bipush 97, 2) := by decide +kernel
theorem dX7_readWord_74 : decode cX7_readWord 74 = .ok (.isub, 1) := by decide +kernel
theorem dX7_readWord_75 : decode cX7_readWord 75 = .ok (.iconst 1, 1) := by decide +kernel
theorem dX7_readWord_76 : decode cX7_readWord 76 = .ok (.iadd, 1) := by decide +kernel
theorem dX7_readWord_77 : decode cX7_readWord 77 = .ok (.iconst 5, 1) := by decide +kernel
theorem dX7_readWord_78 : decode cX7_readWord 78 = .ok (.aload_n 0, 1) := by decide +kernel
theorem dX7_readWord_79 : decode cX7_readWord 79 = .ok (.getfield 36, 3) := by decide +kernel
theorem dX7_readWord_82 : decode cX7_readWord 82 = .ok (.aload_n 0, 1) := by decide +kernel
theorem dX7_readWord_83 : decode cX7_readWord 83 = .ok (.getfield 48, 3) := by decide +kernel
theorem dX7_readWord_86 : decode cX7_readWord 86 = .ok (.isub, 1) := by decide +kernel
theorem dX7_readWord_87 : decode cX7_readWord 87 = .ok (.imul, 1) := by decide +kernel
theorem dX7_readWord_88 : decode cX7_readWord 88 = .ok (.ishl, 1) := by decide +kernel
theorem dX7_readWord_89 : decode cX7_readWord 89 = .ok (.ior, 1) := by decide +kernel
theorem dX7_readWord_90 : decode cX7_readWord 90 = .ok (.putfield 57, 3) := by decide +kernel
theorem dX7_readWord_93 : decode cX7_readWord 93 = .ok (.aload_n 0, 1) := by decide +kernel
theorem dX7_readWord_94 : decode cX7_readWord 94 = .ok (.dup, 1) := by decide +kernel
theorem dX7_readWord_95 : decode cX7_readWord 95 = .ok (.getfield 36, 3) := by decide +kernel
theorem dX7_readWord_98 : decode cX7_readWord 98 = .ok (.iconst 1, 1) := by decide +kernel
theorem dX7_readWord_99 : decode cX7_readWord 99 = .ok (.iadd, 1) := by decide +kernel
theorem dX7_readWord_100 : decode cX7_readWord 100 = .ok (.putfield 36, 3) := by decide +kernel
theorem dX7_readWord_103 : decode cX7_readWord 103 = .ok (.goto (-98), 3) := by decide +kernel
theorem dX7_readWord_106 : decode cX7_readWord 106 = .ok (.aload_n 0, 1) := by decide +kernel
theorem dX7_readWord_107 : decode cX7_readWord 107 = .ok (.aload_n 0, 1) := by decide +kernel
theorem dX7_readWord_108 : decode cX7_readWord 108 = .ok (.getfield 36, 3) := by decide +kernel
theorem dX7_readWord_111 : decode cX7_readWord 111 = .ok (.aload_n 0, 1) := by decide +kernel
theorem dX7_readWord_112 : decode cX7_readWord 112 = .ok (.getfield 48, 3) := by decide +kernel
theorem dX7_readWord_115 : decode cX7_readWord 115 = .ok (.isub, 1) := by decide +kernel
theorem dX7_readWord_116 : decode cX7_readWord 116 = .ok (.bipush 6, 2) := by decide +kernel
theorem dX7_readWord_118 : decode cX7_readWord 118 = .ok (.if_icmp .gt 7, 3) := by decide +kernel
theorem dX7_readWord_121 : decode cX7_readWord 121 = .ok (.iconst 1, 1) := by decide +kernel
theorem dX7_readWord_122 : decode cX7_readWord 122 = .ok (.goto 4, 3) := by decide +kernel
theorem dX7_readWord_125 : decode cX7_readWord 125 = .ok (.iconst 4, 1) := by decide +kernel
theorem dX7_readWord_126 : decode cX7_readWord 126 = .ok (.putfield 39, 3) := by decide +kernel
theorem dX7_readWord_129 : decode cX7_readWord 129 = .ok (.return_, 1) := by decide +kernel
theorem dX7_readNumber_0 : decode cX7_readNumber 0 = .ok (.aload_n 0, 1) := by decide +kernel
theorem dX7_readNumber_1 : decode cX7_readNumber 1 = .ok (.iconst 0, 1) := by decide +kernel
theorem dX7_readNumber_2 : decode cX7_readNumber 2 = .ok (.putfield 57, 3) := by decide +kernel
theorem dX7_readNumber_5 : decode cX7_readNumber 5 = .ok (.aload_n 0, 1) := by decide +kernel
theorem dX7_readNumber_6 : decode cX7_readNumber 6 = .ok (.getfield 36, 3) := by decide +kernel
theorem dX7_readNumber_9 : decode cX7_readNumber 9 = .ok (.aload_n 0, 1) := by decide +kernel
theorem dX7_readNumber_10 : decode cX7_readNumber 10 = .ok (.getfield 34, 3) := by decide +kernel
theorem dX7_readNumber_13 : decode cX7_readNumber 13 = .ok (.if_icmp .ge 81, 3) := by decide +kernel
theorem dX7_readNumber_16 : decode cX7_readNumber 16 = .ok (.aload_n 0, 1) := by decide +kernel
theorem dX7_readNumber_17 : decode cX7_readNumber 17 = .ok (.getfield 9, 3) := by decide +kernel
theorem dX7_readNumber_20 : decode cX7_readNumber 20 = .ok (.aload_n 0, 1) := by decide +kernel
theorem dX7_readNumber_21 : decode cX7_readNumber 21 = .ok (.getfield 36, 3) := by decide +kernel
theorem dX7_readNumber_24 : decode cX7_readNumber 24 = .ok (.iaload, 1) := by decide +kernel
theorem dX7_readNumber_25 : decode cX7_readNumber 25 = .ok (.bipush 48, 2) := by decide +kernel
theorem dX7_readNumber_27 : decode cX7_readNumber 27 = .ok (.if_icmp .lt 67, 3) := by decide +kernel
theorem dX7_readNumber_30 : decode cX7_readNumber 30 = .ok (.aload_n 0, 1) := by decide +kernel
theorem dX7_readNumber_31 : decode cX7_readNumber 31 = .ok (.getfield 9, 3) := by decide +kernel
theorem dX7_readNumber_34 : decode cX7_readNumber 34 = .ok (.aload_n 0, 1) := by decide +kernel
theorem dX7_readNumber_35 : decode cX7_readNumber 35 = .ok (.getfield 36, 3) := by decide +kernel
theorem dX7_readNumber_38 : decode cX7_readNumber 38 = .ok (.iaload, 1) := by decide +kernel
theorem dX7_readNumber_39 : decode cX7_readNumber 39 = .ok (.bipush 57, 2) := by decide +kernel
theorem dX7_readNumber_41 : decode cX7_readNumber 41 = .ok (.if_icmp .gt 53, 3) := by decide +kernel
theorem dX7_readNumber_44 : decode cX7_readNumber 44 = .ok (.aload_n 0, 1) := by decide +kernel
theorem dX7_readNumber_45 : decode cX7_readNumber 45 = .ok (.getfield 36, 3) := by decide +kernel
theorem dX7_readNumber_48 : decode cX7_readNumber 48 = .ok (.aload_n 0, 1) := by decide +kernel
theorem dX7_readNumber_49 : decode cX7_readNumber 49 = .ok (.getfield 48, 3) := by decide +kernel
theorem dX7_readNumber_52 : decode cX7_readNumber 52 = .ok (.isub, 1) := by decide +kernel
theorem dX7_readNumber_53 : decode cX7_readNumber 53 = .ok (.iconst 4, 1) := by decide +kernel
theorem dX7_readNumber_54 : decode cX7_readNumber 54 = .ok (.if_icmp .ge 27, 3) := by decide +kernel
theorem dX7_readNumber_57 : decode cX7_readNumber 57 = .ok (.aload_n 0, 1) := by decide +kernel
theorem dX7_readNumber_58 : decode cX7_readNumber 58 = .ok (.aload_n 0, 1) := by decide +kernel
theorem dX7_readNumber_59 : decode cX7_readNumber 59 = .ok (.getfield 57, 3) := by decide +kernel
theorem dX7_readNumber_62 : decode cX7_readNumber 62 = .ok (.bipush 10, 2) := by decide +kernel
theorem dX7_readNumber_64 : decode cX7_readNumber 64 = .ok (.imul, 1) := by decide +kernel
theorem dX7_readNumber_65 : decode cX7_readNumber 65 = .ok (.aload_n 0, 1) := by decide +kernel
theorem dX7_readNumber_66 : decode cX7_readNumber 66 = .ok (.getfield 9, 3) := by decide +kernel
theorem dX7_readNumber_69 : decode cX7_readNumber 69 = .ok (.aload_n 0, 1) := by decide +kernel
theorem dX7_readNumber_70 : decode cX7_readNumber 70 = .ok (.getfield 36, 3) := by decide +kernel
theorem dX7_readNumber_73 : decode cX7_readNumber 73 = .ok (.iaload, 1) := by decide +kernel
theorem dX7_readNumber_74 : decode cX7_readNumber 74 = .ok (.iadd, 1) := by decide +kernel
theorem dX7_readNumber_75 : decode cX7_readNumber 75 = .ok (.bipush 48, 2) := by decide +kernel
theorem dX7_readNumber_77 : decode cX7_readNumber 77 = .ok (.isub, 1) := by decide +kernel
theorem dX7_readNumber_78 : decode cX7_readNumber 78 = .ok (.putfield 57, 3) := by decide +kernel
theorem dX7_readNumber_81 : decode cX7_readNumber 81 = .ok (.aload_n 0, 1) := by decide +kernel
theorem dX7_readNumber_82 : decode cX7_readNumber 82 = .ok (.dup, 1) := by decide +kernel
theorem dX7_readNumber_83 : decode cX7_readNumber 83 = .ok (.getfield 36, 3) := by decide +kernel
theorem dX7_readNumber_86 : decode cX7_readNumber 86 = .ok (.iconst 1, 1) := by decide +kernel
theorem dX7_readNumber_87 : decode cX7_readNumber 87 = .ok (.iadd, 1) := by decide +kernel
theorem dX7_readNumber_88 : decode cX7_readNumber 88 = .ok (.putfield 36, 3) := by decide +kernel
theorem dX7_readNumber_91 : decode cX7_readNumber 91 = .ok (.goto (-86), 3) := by decide +kernel
theorem dX7_readNumber_94 : decode cX7_readNumber 94 = .ok (.aload_n 0, 1) := by decide +kernel
theorem dX7_readNumber_95 : decode cX7_readNumber 95 = .ok (.aload_n 0, 1) := by decide +kernel
theorem dX7_readNumber_96 : decode cX7_readNumber 96 = .ok (.getfield 36, 3) := by decide +kernel
theorem dX7_readNumber_99 : decode cX7_readNumber 99 = .ok (.aload_n 0, 1) := by decide +kernel
theorem dX7_readNumber_100 : decode cX7_readNumber 100 = .ok (.getfield 48, 3) := by decide +kernel
theorem dX7_readNumber_103 : decode cX7_readNumber 103 = .ok (.isub, 1) := by decide +kernel
theorem dX7_readNumber_104 : decode cX7_readNumber 104 = .ok (.iconst 4, 1) := by decide +kernel
theorem dX7_readNumber_105 : decode cX7_readNumber 105 = .ok (.if_icmp .gt 7, 3) := by decide +kernel
theorem dX7_readNumber_108 : decode cX7_readNumber 108 = .ok (.iconst 2, 1) := by decide +kernel
theorem dX7_readNumber_109 : decode cX7_readNumber 109 = .ok (.goto 4, 3) := by decide +kernel
theorem dX7_readNumber_112 : decode cX7_readNumber 112 = .ok (.iconst 4, 1) := by decide +kernel
theorem dX7_readNumber_113 : decode cX7_readNumber 113 = .ok (.putfield 39, 3) := by decide +kernel
theorem dX7_readNumber_116 : decode cX7_readNumber 116 = .ok (.return_, 1) := by decide +kernel
theorem dX7_advance_0 : decode cX7_advance 0 = .ok (.aload_n 0, 1) := by decide +kernel
theorem dX7_advance_1 : decode cX7_advance 1 = .ok (.getfield 39, 3) := by decide +kernel
theorem dX7_advance_4 : decode cX7_advance 4 = .ok (.iconst 1, 1) := by decide +kernel
theorem dX7_advance_5 : decode cX7_advance 5 = .ok (.if_icmp .eq 11, 3) := by decide +kernel
theorem dX7_advance_8 : decode cX7_advance 8 = .ok (.aload_n 0, 1) := by decide +kernel
theorem dX7_advance_9 : decode cX7_advance 9 = .ok (.getfield 39, 3) := by decide +kernel
theorem dX7_advance_12 : decode cX7_advance 12 = .ok (.iconst 2, 1) := by decide +kernel
theorem dX7_advance_13 : decode cX7_advance 13 = .ok (.if_icmp .ne 10, 3) := by decide +kernel
theorem dX7_advance_16 : decode cX7_advance 16 = .ok (.aload_n 0, 1) := by decide +kernel
theorem dX7_advance_17 : decode cX7_advance 17 = .ok (.getfield 36, 3) := by decide +kernel
theorem dX7_advance_20 : decode cX7_advance 20 = .ok (.goto 4, 3) := by decide +kernel
theorem dX7_advance_23 : decode cX7_advance 23 = .ok (.iconst (-1), 1) := by decide +kernel
theorem dX7_advance_24 : decode cX7_advance 24 = .ok (.istore_n 1, 1) := by decide +kernel
theorem dX7_advance_25 : decode cX7_advance 25 = .ok (.aload_n 0, 1) := by decide +kernel
theorem dX7_advance_26 : decode cX7_advance 26 = .ok (.getfield 36, 3) := by decide +kernel
theorem dX7_advance_29 : decode cX7_advance 29 = .ok (.aload_n 0, 1) := by decide +kernel
theorem dX7_advance_30 : decode cX7_advance 30 = .ok (.getfield 34, 3) := by decide +kernel
theorem dX7_advance_33 : decode cX7_advance 33 = .ok (.if_icmp .ge 44, 3) := by decide +kernel
theorem dX7_advance_36 : decode cX7_advance 36 = .ok (.aload_n 0, 1) := by decide +kernel
theorem dX7_advance_37 : decode cX7_advance 37 = .ok (.getfield 9, 3) := by decide +kernel
theorem dX7_advance_40 : decode cX7_advance 40 = .ok (.aload_n 0, 1) := by decide +kernel
theorem dX7_advance_41 : decode cX7_advance 41 = .ok (.getfield 36, 3) := by decide +kernel
theorem dX7_advance_44 : decode cX7_advance 44 = .ok (.iaload, 1) := by decide +kernel
theorem dX7_advance_45 : decode cX7_advance 45 = .ok (.bipush 10, 2) := by decide +kernel
theorem dX7_advance_47 : decode cX7_advance 47 = .ok (.if_icmp .eq 17, 3) := by decide +kernel
theorem dX7_advance_50 : decode cX7_advance 50 = .ok (.aload_n 0, 1) := by decide +kernel
theorem dX7_advance_51 : decode cX7_advance 51 = .ok (.getfield 9, 3) := by decide +kernel
theorem dX7_advance_54 : decode cX7_advance 54 = .ok (.aload_n 0, 1) := by decide +kernel
theorem dX7_advance_55 : decode cX7_advance 55 = .ok (.getfield 36, 3) := by decide +kernel
theorem dX7_advance_58 : decode cX7_advance 58 = .ok (.iaload, 1) := by decide +kernel
theorem dX7_advance_59 : decode cX7_advance 59 = .ok (.bipush 32, 2) := by decide +kernel
theorem dX7_advance_61 : decode cX7_advance 61 = .ok (.if_icmp .ne 16, 3) := by decide +kernel
theorem dX7_advance_64 : decode cX7_advance 64 = .ok (.aload_n 0, 1) := by decide +kernel
theorem dX7_advance_65 : decode cX7_advance 65 = .ok (.dup, 1) := by decide +kernel
theorem dX7_advance_66 : decode cX7_advance 66 = .ok (.getfield 36, 3) := by decide +kernel
theorem dX7_advance_69 : decode cX7_advance 69 = .ok (.iconst 1, 1) := by decide +kernel
theorem dX7_advance_70 : decode cX7_advance 70 = .ok (.iadd, 1) := by decide +kernel
theorem dX7_advance_71 : decode cX7_advance 71 = .ok (.putfield 36, 3) := by decide +kernel
theorem dX7_advance_74 : decode cX7_advance 74 = .ok (.goto (-49), 3) := by decide +kernel
theorem dX7_advance_77 : decode cX7_advance 77 = .ok (.aload_n 0, 1) := by decide +kernel
theorem dX7_advance_78 : decode cX7_advance 78 = .ok (.aload_n 0, 1) := by decide +kernel
theorem dX7_advance_79 : decode cX7_advance 79 = .ok (.getfield 36, 3) := by decide +kernel
theorem dX7_advance_82 : decode cX7_advance 82 = .ok (.putfield 48, 3) := by decide +kernel
theorem dX7_advance_85 : decode cX7_advance 85 = .ok (.aload_n 0, 1) := by decide +kernel
theorem dX7_advance_86 : decode cX7_advance 86 = .ok (.getfield 36, 3) := by decide +kernel
theorem dX7_advance_89 : decode cX7_advance 89 = .ok (.aload_n 0, 1) := by decide +kernel
theorem dX7_advance_90 : decode cX7_advance 90 = .ok (.getfield 34, 3) := by decide +kernel
theorem dX7_advance_93 : decode cX7_advance 93 = .ok (.if_icmp .lt 9, 3) := by decide +kernel
theorem dX7_advance_96 : decode cX7_advance 96 = .ok (.aload_n 0, 1) := by decide +kernel
theorem dX7_advance_97 : decode cX7_advance 97 = .ok (.iconst 0, 1) := by decide +kernel
theorem dX7_advance_98 : decode cX7_advance 98 = .ok (.putfield 39, 3) := by decide +kernel
theorem dX7_advance_101 : decode cX7_advance 101 = .ok (.return_, 1) := by decide +kernel
theorem dX7_advance_102 : decode cX7_advance 102 = .ok (.aload_n 0, 1) := by decide +kernel
theorem dX7_advance_103 : decode cX7_advance 103 = .ok (.getfield 9, 3) := by decide +kernel
theorem dX7_advance_106 : decode cX7_advance 106 = .ok (.aload_n 0, 1) := by decide +kernel
theorem dX7_advance_107 : decode cX7_advance 107 = .ok (.getfield 36, 3) := by decide +kernel
theorem dX7_advance_110 : decode cX7_advance 110 = .ok (.iaload, 1) := by decide +kernel
theorem dX7_advance_111 : decode cX7_advance 111 = .ok (.istore_n 2, 1) := by decide +kernel
theorem dX7_advance_112 : decode cX7_advance 112 = .ok (.iload_n 2, 1) := by decide +kernel
theorem dX7_advance_113 : decode cX7_advance 113 = .ok (.bipush 97, 2) := by decide +kernel
theorem dX7_advance_115 : decode cX7_advance 115 = .ok (.if_icmp .lt 16, 3) := by decide +kernel
theorem dX7_advance_118 : decode cX7_advance 118 = .ok (.iload_n 2, 1) := by decide +kernel
theorem dX7_advance_119 : decode cX7_advance 119 = .ok (.bipush 122, 2) := by decide +kernel
theorem dX7_advance_121 : decode cX7_advance 121 = .ok (.if_icmp .gt 10, 3) := by decide +kernel
theorem dX7_advance_124 : decode cX7_advance 124 = .ok (.aload_n 0, 1) := by decide +kernel
theorem dX7_advance_125 : decode cX7_advance 125 = .ok (.invokevirtual 51, 3) := by decide +kernel
theorem dX7_advance_128 : decode cX7_advance 128 = .ok (.goto 47, 3) := by decide +kernel
theorem dX7_advance_131 : decode cX7_advance 131 = .ok (.iload_n 2, 1) := by decide +kernel
theorem dX7_advance_132 : decode cX7_advance 132 = .ok (.bipush 48, 2) := by decide +kernel
theorem dX7_advance_134 : decode cX7_advance 134 = .ok (.if_icmp .lt 16, 3) := by decide +kernel
theorem dX7_advance_137 : decode cX7_advance 137 = .ok (.iload_n 2, 1) := by decide +kernel
theorem dX7_advance_138 : decode cX7_advance 138 = .ok (.bipush 57, 2) := by decide +kernel
theorem dX7_advance_140 : decode cX7_advance 140 = .ok (.if_icmp .gt 10, 3) := by decide +kernel
theorem dX7_advance_143 : decode cX7_advance 143 = .ok (.aload_n 0, 1) := by decide +kernel
theorem dX7_advance_144 : decode cX7_advance 144 = .ok (.invokevirtual 54, 3) := by decide +kernel
theorem dX7_advance_147 : decode cX7_advance 147 = .ok (.goto 28, 3) := by decide +kernel
theorem dX7_advance_150 : decode cX7_advance 150 = .ok (.aload_n 0, 1) := by decide +kernel
theorem dX7_advance_151 : decode cX7_advance 151 = .ok (.iload_n 2, 1) := by decide +kernel
theorem dX7_advance_152 : decode cX7_advance 152 = .ok (.bipush 59, 2) := by decide +kernel
theorem dX7_advance_154 : decode cX7_advance 154 = .ok (.if_icmp .ne 7, 3) := by decide +kernel
theorem dX7_advance_157 : decode cX7_advance 157 = .ok (.iconst 3, 1) := by decide +kernel
theorem dX7_advance_158 : decode cX7_advance 158 = .ok (.goto 4, 3) := by decide +kernel
theorem dX7_advance_161 : decode cX7_advance 161 = .ok (.iconst 4, 1) := by decide +kernel
theorem dX7_advance_162 : decode cX7_advance 162 = .ok (.putfield 39, 3) := by decide +kernel
theorem dX7_advance_165 : decode cX7_advance 165 = .ok (.aload_n 0, 1) := by decide +kernel
theorem dX7_advance_166 : decode cX7_advance 166 = .ok (.dup, 1) := by decide +kernel
theorem dX7_advance_167 : decode cX7_advance 167 = .ok (.getfield 36, 3) := by decide +kernel
theorem dX7_advance_170 : decode cX7_advance 170 = .ok (.iconst 1, 1) := by decide +kernel
theorem dX7_advance_171 : decode cX7_advance 171 = .ok (.iadd, 1) := by decide +kernel
theorem dX7_advance_172 : decode cX7_advance 172 = .ok (.putfield 36, 3) := by decide +kernel
theorem dX7_advance_175 : decode cX7_advance 175 = .ok (.aload_n 0, 1) := by decide +kernel
theorem dX7_advance_176 : decode cX7_advance 176 = .ok (.getfield 48, 3) := by decide +kernel
theorem dX7_advance_179 : decode cX7_advance 179 = .ok (.iload_n 1, 1) := by decide +kernel
theorem dX7_advance_180 : decode cX7_advance 180 = .ok (.if_icmp .ne 16, 3) := by decide +kernel
theorem dX7_advance_183 : decode cX7_advance 183 = .ok (.aload_n 0, 1) := by decide +kernel
theorem dX7_advance_184 : decode cX7_advance 184 = .ok (.getfield 39, 3) := by decide +kernel
theorem dX7_advance_187 : decode cX7_advance 187 = .ok (.iconst 3, 1) := by decide +kernel
theorem dX7_advance_188 : decode cX7_advance 188 = .ok (.if_icmp .eq 8, 3) := by decide +kernel
theorem dX7_advance_191 : decode cX7_advance 191 = .ok (.aload_n 0, 1) := by decide +kernel
theorem dX7_advance_192 : decode cX7_advance 192 = .ok (.iconst 4, 1) := by decide +kernel
theorem dX7_advance_193 : decode cX7_advance 193 = .ok (.putfield 39, 3) := by decide +kernel
theorem dX7_advance_196 : decode cX7_advance 196 = .ok (.return_, 1) := by decide +kernel
theorem dX7_open_0 : decode cX7_open 0 = .ok (.aload_n 0, 1) := by decide +kernel
theorem dX7_open_1 : decode cX7_open 1 = .ok (.iconst 0, 1) := by decide +kernel
theorem dX7_open_2 : decode cX7_open 2 = .ok (.putfield 36, 3) := by decide +kernel
theorem dX7_open_5 : decode cX7_open 5 = .ok (.aload_n 0, 1) := by decide +kernel
theorem dX7_open_6 : decode cX7_open 6 = .ok (.iconst 3, 1) := by decide +kernel
theorem dX7_open_7 : decode cX7_open 7 = .ok (.putfield 39, 3) := by decide +kernel
theorem dX7_open_10 : decode cX7_open 10 = .ok (.aload_n 0, 1) := by decide +kernel
theorem dX7_open_11 : decode cX7_open 11 = .ok (.iconst 0, 1) := by decide +kernel
theorem dX7_open_12 : decode cX7_open 12 = .ok (.putfield 42, 3) := by decide +kernel
theorem dX7_open_15 : decode cX7_open 15 = .ok (.aload_n 0, 1) := by decide +kernel
theorem dX7_open_16 : decode cX7_open 16 = .ok (.iconst (-1), 1) := by decide +kernel
theorem dX7_open_17 : decode cX7_open 17 = .ok (.putfield 18, 3) := by decide +kernel
theorem dX7_open_20 : decode cX7_open 20 = .ok (.aload_n 0, 1) := by decide +kernel
theorem dX7_open_21 : decode cX7_open 21 = .ok (.invokevirtual 45, 3) := by decide +kernel
theorem dX7_open_24 : decode cX7_open 24 = .ok (.return_, 1) := by decide +kernel
theorem dX7_isEnded_0 : decode cX7_isEnded 0 = .ok (.aload_n 0, 1) := by decide +kernel
theorem dX7_isEnded_1 : decode cX7_isEnded 1 = .ok (.getfield 39, 3) := by decide +kernel
theorem dX7_isEnded_4 : decode cX7_isEnded 4 = .ok (.ifCond .ne 7, 3) := by decide +kernel
theorem dX7_isEnded_7 : decode cX7_isEnded 7 = .ok (.iconst 1, 1) := by decide +kernel
theorem dX7_isEnded_8 : decode cX7_isEnded 8 = .ok (.goto 4, 3) := by decide +kernel
theorem dX7_isEnded_11 : decode cX7_isEnded 11 = .ok (.iconst 0, 1) := by decide +kernel
theorem dX7_isEnded_12 : decode cX7_isEnded 12 = .ok (.ireturn, 1) := by decide +kernel
theorem dX7_ownWord_0 : decode cX7_ownWord 0 = .ok (.iconst 0, 1) := by decide +kernel
theorem dX7_ownWord_1 : decode cX7_ownWord 1 = .ok (.istore_n 1, 1) := by decide +kernel
theorem dX7_ownWord_2 : decode cX7_ownWord 2 = .ok (.iload_n 1, 1) := by decide +kernel
theorem dX7_ownWord_3 : decode cX7_ownWord 3 = .ok (.bipush 21, 2) := by decide +kernel
theorem dX7_ownWord_5 : decode cX7_ownWord 5 = .ok (.if_icmp .ge 32, 3) := by decide +kernel
theorem dX7_ownWord_8 : decode cX7_ownWord 8 = .ok (.aload_n 0, 1) := by decide +kernel
theorem dX7_ownWord_9 : decode cX7_ownWord 9 = .ok (.getfield 39, 3) := by decide +kernel
theorem dX7_ownWord_12 : decode cX7_ownWord 12 = .ok (.iconst 1, 1) := by decide +kernel
theorem dX7_ownWord_13 : decode cX7_ownWord 13 = .ok (.if_icmp .ne 24, 3) := by decide +kernel
theorem dX7_ownWord_16 : decode cX7_ownWord 16 = .ok (.aload_n 0, 1) := by decide +kernel
theorem dX7_ownWord_17 : decode cX7_ownWord 17 = .ok (.getfield 15, 3) := by decide +kernel
theorem dX7_ownWord_20 : decode cX7_ownWord 20 = .ok (.iload_n 1, 1) := by decide +kernel
theorem dX7_ownWord_21 : decode cX7_ownWord 21 = .ok (.iaload, 1) := by decide +kernel
theorem dX7_ownWord_22 : decode cX7_ownWord 22 = .ok (.aload_n 0, 1) := by decide +kernel
theorem dX7_ownWord_23 : decode cX7_ownWord 23 = .ok (.getfield 57, 3) := by decide +kernel
theorem dX7_ownWord_26 : decode cX7_ownWord 26 = .ok (.if_icmp .ne 5, 3) := by decide +kernel
theorem dX7_ownWord_29 : decode cX7_ownWord 29 = .ok (.iload_n 1, 1) := by decide +kernel
theorem dX7_ownWord_30 : decode cX7_ownWord 30 = .ok (.ireturn, 1) := by decide +kernel
theorem dX7_ownWord_31 : decode cX7_ownWord 31 = .ok (.iinc 1 1, 3) := by decide +kernel
theorem dX7_ownWord_34 : decode cX7_ownWord 34 = .ok (.goto (-32), 3) := by decide +kernel
theorem dX7_ownWord_37 : decode cX7_ownWord 37 = .ok (.iconst (-1), 1) := by decide +kernel
theorem dX7_ownWord_38 : decode cX7_ownWord 38 = .ok (.ireturn, 1) := by decide +kernel
theorem dX7_refuse_0 : decode cX7_refuse 0 = .ok (.aload_n 0, 1) := by decide +kernel
theorem dX7_refuse_1 : decode cX7_refuse 1 = .ok (.iload_n 1, 1) := by decide +kernel
theorem dX7_refuse_2 : decode cX7_refuse 2 = .ok (.putfield 42, 3) := by decide +kernel
theorem dX7_refuse_5 : decode cX7_refuse 5 = .ok (.aload_n 0, 1) := by decide +kernel
theorem dX7_refuse_6 : decode cX7_refuse 6 = .ok (.iload_n 2, 1) := by decide +kernel
theorem dX7_refuse_7 : decode cX7_refuse 7 = .ok (.putfield 18, 3) := by decide +kernel
theorem dX7_refuse_10 : decode cX7_refuse 10 = .ok (.iconst 0, 1) := by decide +kernel
theorem dX7_refuse_11 : decode cX7_refuse 11 = .ok (.ireturn, 1) := by decide +kernel
theorem dX7_isName_0 : decode cX7_isName 0 = .ok (.aload_n 0, 1) := by decide +kernel
theorem dX7_isName_1 : decode cX7_isName 1 = .ok (.getfield 39, 3) := by decide +kernel
theorem dX7_isName_4 : decode cX7_isName 4 = .ok (.iconst 1, 1) := by decide +kernel
theorem dX7_isName_5 : decode cX7_isName 5 = .ok (.if_icmp .ne 15, 3) := by decide +kernel
theorem dX7_isName_8 : decode cX7_isName 8 = .ok (.aload_n 0, 1) := by decide +kernel
theorem dX7_isName_9 : decode cX7_isName 9 = .ok (.invokevirtual 60, 3) := by decide +kernel
theorem dX7_isName_12 : decode cX7_isName 12 = .ok (.iconst (-1), 1) := by decide +kernel
theorem dX7_isName_13 : decode cX7_isName 13 = .ok (.if_icmp .ne 7, 3) := by decide +kernel
theorem dX7_isName_16 : decode cX7_isName 16 = .ok (.iconst 1, 1) := by decide +kernel
theorem dX7_isName_17 : decode cX7_isName 17 = .ok (.goto 4, 3) := by decide +kernel
theorem dX7_isName_20 : decode cX7_isName 20 = .ok (.iconst 0, 1) := by decide +kernel
theorem dX7_isName_21 : decode cX7_isName 21 = .ok (.ireturn, 1) := by decide +kernel
theorem dX7_pass_0 : decode cX7_pass 0 = .ok (.aload_n 0, 1) := by decide +kernel
theorem dX7_pass_1 : decode cX7_pass 1 = .ok (.invokevirtual 60, 3) := by decide +kernel
theorem dX7_pass_4 : decode cX7_pass 4 = .ok (.iload_n 1, 1) := by decide +kernel
theorem dX7_pass_5 : decode cX7_pass 5 = .ok (.if_icmp .eq 13, 3) := by decide +kernel
theorem dX7_pass_8 : decode cX7_pass 8 = .ok (.aload_n 0, 1) := by decide +kernel
theorem dX7_pass_9 : decode cX7_pass 9 = .ok (.iconst 1, 1) := by decide +kernel
theorem dX7_pass_10 : decode cX7_pass 10 = .ok (.aload_n 0, 1) := by decide +kernel
theorem dX7_pass_11 : decode cX7_pass 11 = .ok (.getfield 48, 3) := by decide +kernel
theorem dX7_pass_14 : decode cX7_pass 14 = .ok (.invokevirtual 63, 3) := by decide +kernel
theorem dX7_pass_17 : decode cX7_pass 17 = .ok (.ireturn, 1) := by decide +kernel
theorem dX7_pass_18 : decode cX7_pass 18 = .ok (.aload_n 0, 1) := by decide +kernel
theorem dX7_pass_19 : decode cX7_pass 19 = .ok (.invokevirtual 45, 3) := by decide +kernel
theorem dX7_pass_22 : decode cX7_pass 22 = .ok (.iconst 1, 1) := by decide +kernel
theorem dX7_pass_23 : decode cX7_pass 23 = .ok (.ireturn, 1) := by decide +kernel
theorem dX7_number_0 : decode cX7_number 0 = .ok (.aload_n 0, 1) := by decide +kernel
theorem dX7_number_1 : decode cX7_number 1 = .ok (.getfield 39, 3) := by decide +kernel
theorem dX7_number_4 : decode cX7_number 4 = .ok (.iconst 2, 1) := by decide +kernel
theorem dX7_number_5 : decode cX7_number 5 = .ok (.if_icmp .eq 15, 3) := by decide +kernel
theorem dX7_number_8 : decode cX7_number 8 = .ok (.aload_n 0, 1) := by decide +kernel
theorem dX7_number_9 : decode cX7_number 9 = .ok (.iconst 1, 1) := by decide +kernel
theorem dX7_number_10 : decode cX7_number 10 = .ok (.aload_n 0, 1) := by decide +kernel
theorem dX7_number_11 : decode cX7_number 11 = .ok (.getfield 48, 3) := by decide +kernel
theorem dX7_number_14 : decode cX7_number 14 = .ok (.invokevirtual 63, 3) := by decide +kernel
theorem dX7_number_17 : decode cX7_number 17 = .ok (.pop, 1) := by decide +kernel
theorem dX7_number_18 : decode cX7_number 18 = .ok (.iconst (-1), 1) := by decide +kernel
theorem dX7_number_19 : decode cX7_number 19 = .ok (.ireturn, 1) := by decide +kernel
theorem dX7_number_20 : decode cX7_number 20 = .ok (.aload_n 0, 1) := by decide +kernel
theorem dX7_number_21 : decode cX7_number 21 = .ok (.getfield 57, 3) := by decide +kernel
theorem dX7_number_24 : decode cX7_number 24 = .ok (.istore_n 3, 1) := by decide +kernel
theorem dX7_number_25 : decode cX7_number 25 = .ok (.iload_n 3, 1) := by decide +kernel
theorem dX7_number_26 : decode cX7_number 26 = .ok (.iload_n 1, 1) := by decide +kernel
theorem dX7_number_27 : decode cX7_number 27 = .ok (.if_icmp .lt 8, 3) := by decide +kernel
theorem dX7_number_30 : decode cX7_number 30 = .ok (.iload_n 3, 1) := by decide +kernel
theorem dX7_number_31 : decode cX7_number 31 = .ok (.iload_n 2, 1) := by decide +kernel
theorem dX7_number_32 : decode cX7_number 32 = .ok (.if_icmp .le 15, 3) := by decide +kernel
theorem dX7_number_35 : decode cX7_number 35 = .ok (.aload_n 0, 1) := by decide +kernel
theorem dX7_number_36 : decode cX7_number 36 = .ok (.iconst 4, 1) := by decide +kernel
theorem dX7_number_37 : decode cX7_number 37 = .ok (.aload_n 0, 1) := by decide +kernel
theorem dX7_number_38 : decode cX7_number 38 = .ok (.getfield 48, 3) := by decide +kernel
theorem dX7_number_41 : decode cX7_number 41 = .ok (.invokevirtual 63, 3) := by decide +kernel
theorem dX7_number_44 : decode cX7_number 44 = .ok (.pop, 1) := by decide +kernel
theorem dX7_number_45 : decode cX7_number 45 = .ok (.iconst (-1), 1) := by decide +kernel
theorem dX7_number_46 : decode cX7_number 46 = .ok (.ireturn, 1) := by decide +kernel
theorem dX7_number_47 : decode cX7_number 47 = .ok (.aload_n 0, 1) := by decide +kernel
theorem dX7_number_48 : decode cX7_number 48 = .ok (.invokevirtual 45, 3) := by decide +kernel
theorem dX7_number_51 : decode cX7_number 51 = .ok (.iload_n 3, 1) := by decide +kernel
theorem dX7_number_52 : decode cX7_number 52 = .ok (.ireturn, 1) := by decide +kernel
theorem dX7_passIfThere_0 : decode cX7_passIfThere 0 = .ok (.aload_n 0, 1) := by decide +kernel
theorem dX7_passIfThere_1 : decode cX7_passIfThere 1 = .ok (.invokevirtual 60, 3) := by decide +kernel
theorem dX7_passIfThere_4 : decode cX7_passIfThere 4 = .ok (.iload_n 1, 1) := by decide +kernel
theorem dX7_passIfThere_5 : decode cX7_passIfThere 5 = .ok (.if_icmp .eq 5, 3) := by decide +kernel
theorem dX7_passIfThere_8 : decode cX7_passIfThere 8 = .ok (.iconst 0, 1) := by decide +kernel
theorem dX7_passIfThere_9 : decode cX7_passIfThere 9 = .ok (.ireturn, 1) := by decide +kernel
theorem dX7_passIfThere_10 : decode cX7_passIfThere 10 = .ok (.aload_n 0, 1) := by decide +kernel
theorem dX7_passIfThere_11 : decode cX7_passIfThere 11 = .ok (.invokevirtual 45, 3) := by decide +kernel
theorem dX7_passIfThere_14 : decode cX7_passIfThere 14 = .ok (.iconst 1, 1) := by decide +kernel
theorem dX7_passIfThere_15 : decode cX7_passIfThere 15 = .ok (.ireturn, 1) := by decide +kernel
theorem dX7_known_0 : decode cX7_known 0 = .ok (.aload_n 0, 1) := by decide +kernel
theorem dX7_known_1 : decode cX7_known 1 = .ok (.invokevirtual 67, 3) := by decide +kernel
theorem dX7_known_4 : decode cX7_known 4 = .ok (.ifCond .ne 15, 3) := by decide +kernel
theorem dX7_known_7 : decode cX7_known 7 = .ok (.aload_n 0, 1) := by decide +kernel
theorem dX7_known_8 : decode cX7_known 8 = .ok (.iconst 1, 1) := by decide +kernel
theorem dX7_known_9 : decode cX7_known 9 = .ok (.aload_n 0, 1) := by decide +kernel
theorem dX7_known_10 : decode cX7_known 10 = .ok (.getfield 48, 3) := by decide +kernel
theorem dX7_known_13 : decode cX7_known 13 = .ok (.invokevirtual 63, 3) := by decide +kernel
theorem dX7_known_16 : decode cX7_known 16 = .ok (.pop, 1) := by decide +kernel
theorem dX7_known_17 : decode cX7_known 17 = .ok (.iconst (-1), 1) := by decide +kernel
theorem dX7_known_18 : decode cX7_known 18 = .ok (.ireturn, 1) := by decide +kernel
theorem dX7_known_19 : decode cX7_known 19 = .ok (.aload_n 1, 1) := by decide +kernel
theorem dX7_known_20 : decode cX7_known 20 = .ok (.iload_n 2, 1) := by decide +kernel
theorem dX7_known_21 : decode cX7_known 21 = .ok (.aload_n 0, 1) := by decide +kernel
theorem dX7_known_22 : decode cX7_known 22 = .ok (.getfield 57, 3) := by decide +kernel
theorem dX7_known_25 : decode cX7_known 25 = .ok (.invokevirtual 71, 3) := by decide +kernel
theorem dX7_known_28 : decode cX7_known 28 = .ok (.istore_n 3, 1) := by decide +kernel
theorem dX7_known_29 : decode cX7_known 29 = .ok (.iload_n 3, 1) := by decide +kernel
theorem dX7_known_30 : decode cX7_known 30 = .ok (.iconst (-1), 1) := by decide +kernel
theorem dX7_known_31 : decode cX7_known 31 = .ok (.if_icmp .ne 15, 3) := by decide +kernel
theorem dX7_known_34 : decode cX7_known 34 = .ok (.aload_n 0, 1) := by decide +kernel
theorem dX7_known_35 : decode cX7_known 35 = .ok (.iconst 3, 1) := by decide +kernel
theorem dX7_known_36 : decode cX7_known 36 = .ok (.aload_n 0, 1) := by decide +kernel
theorem dX7_known_37 : decode cX7_known 37 = .ok (.getfield 48, 3) := by decide +kernel
theorem dX7_known_40 : decode cX7_known 40 = .ok (.invokevirtual 63, 3) := by decide +kernel
theorem dX7_known_43 : decode cX7_known 43 = .ok (.pop, 1) := by decide +kernel
theorem dX7_known_44 : decode cX7_known 44 = .ok (.iconst (-1), 1) := by decide +kernel
theorem dX7_known_45 : decode cX7_known 45 = .ok (.ireturn, 1) := by decide +kernel
theorem dX7_known_46 : decode cX7_known 46 = .ok (.aload_n 0, 1) := by decide +kernel
theorem dX7_known_47 : decode cX7_known 47 = .ok (.invokevirtual 45, 3) := by decide +kernel
theorem dX7_known_50 : decode cX7_known 50 = .ok (.iload_n 3, 1) := by decide +kernel
theorem dX7_known_51 : decode cX7_known 51 = .ok (.ireturn, 1) := by decide +kernel
theorem dX7_knownMember_0 : decode cX7_knownMember 0 = .ok (.aload_n 0, 1) := by decide +kernel
theorem dX7_knownMember_1 : decode cX7_knownMember 1 = .ok (.aload_n 1, 1) := by decide +kernel
theorem dX7_knownMember_2 : decode cX7_knownMember 2 = .ok (.iconst 0, 1) := by decide +kernel
theorem dX7_knownMember_3 : decode cX7_knownMember 3 = .ok (.invokevirtual 77, 3) := by decide +kernel
theorem dX7_knownMember_6 : decode cX7_knownMember 6 = .ok (.istore_n 2, 1) := by decide +kernel
theorem dX7_knownMember_7 : decode cX7_knownMember 7 = .ok (.iload_n 2, 1) := by decide +kernel
theorem dX7_knownMember_8 : decode cX7_knownMember 8 = .ok (.iconst (-1), 1) := by decide +kernel
theorem dX7_knownMember_9 : decode cX7_knownMember 9 = .ok (.if_icmp .eq 12, 3) := by decide +kernel
theorem dX7_knownMember_12 : decode cX7_knownMember 12 = .ok (.aload_n 0, 1) := by decide +kernel
theorem dX7_knownMember_13 : decode cX7_knownMember 13 = .ok (.bipush 8, 2) := by decide +kernel
theorem dX7_knownMember_15 : decode cX7_knownMember 15 = .ok (.invokevirtual 81, 3) := by decide +kernel
theorem dX7_knownMember_18 : decode cX7_knownMember 18 = .ok (.ifCond .ne 5, 3) := by decide +kernel
theorem dX7_knownMember_21 : decode cX7_knownMember 21 = .ok (.iconst (-1), 1) := by decide +kernel
theorem dX7_knownMember_22 : decode cX7_knownMember 22 = .ok (.ireturn, 1) := by decide +kernel
theorem dX7_knownMember_23 : decode cX7_knownMember 23 = .ok (.aload_n 0, 1) := by decide +kernel
theorem dX7_knownMember_24 : decode cX7_knownMember 24 = .ok (.getfield 48, 3) := by decide +kernel
theorem dX7_knownMember_27 : decode cX7_knownMember 27 = .ok (.istore_n 3, 1) := by decide +kernel
theorem dX7_knownMember_28 : decode cX7_knownMember 28 = .ok (.aload_n 0, 1) := by decide +kernel
theorem dX7_knownMember_29 : decode cX7_knownMember 29 = .ok (.aload_n 1, 1) := by decide +kernel
theorem dX7_knownMember_30 : decode cX7_knownMember 30 = .ok (.iconst 2, 1) := by decide +kernel
theorem dX7_knownMember_31 : decode cX7_knownMember 31 = .ok (.invokevirtual 77, 3) := by decide +kernel
theorem dX7_knownMember_34 : decode cX7_knownMember 34 = .ok (.istore 4, 2) := by decide +kernel
theorem dX7_knownMember_36 : decode cX7_knownMember 36 = .ok (.iload 4, 2) := by decide +kernel
theorem dX7_knownMember_38 : decode cX7_knownMember 38 = .ok (.iconst (-1), 1) := by decide +kernel
theorem dX7_knownMember_39 : decode cX7_knownMember 39 = .ok (.if_icmp .ne 5, 3) := by decide +kernel
theorem dX7_knownMember_42 : decode cX7_knownMember 42 = .ok (.iconst (-1), 1) := by decide +kernel
theorem dX7_knownMember_43 : decode cX7_knownMember 43 = .ok (.ireturn, 1) := by decide +kernel
theorem dX7_knownMember_44 : decode cX7_knownMember 44 = .ok (.aload_n 1, 1) := by decide +kernel
theorem dX7_knownMember_45 : decode cX7_knownMember 45 = .ok (.iload 4, 2) := by decide +kernel
theorem dX7_knownMember_47 : decode cX7_knownMember 47 = .ok (.iload_n 2, 1) := by decide +kernel
theorem dX7_knownMember_48 : decode cX7_knownMember 48 = .ok (.invokevirtual 85, 3) := by decide +kernel
theorem dX7_knownMember_51 : decode cX7_knownMember 51 = .ok (.ifCond .ne 12, 3) := by decide +kernel
theorem dX7_knownMember_54 : decode cX7_knownMember 54 = .ok (.aload_n 0, 1) := by decide +kernel
theorem dX7_knownMember_55 : decode cX7_knownMember 55 = .ok (.iconst 5, 1) := by decide +kernel
theorem dX7_knownMember_56 : decode cX7_knownMember 56 = .ok (.iload_n 3, 1) := by decide +kernel
theorem dX7_knownMember_57 : decode cX7_knownMember 57 = .ok (.invokevirtual 63, 3) := by decide +kernel
theorem dX7_knownMember_60 : decode cX7_knownMember 60 = .ok (.pop, 1) := by decide +kernel
theorem dX7_knownMember_61 : decode cX7_knownMember 61 = .ok (.iconst (-1), 1) := by decide +kernel
theorem dX7_knownMember_62 : decode cX7_knownMember 62 = .ok (.ireturn, 1) := by decide +kernel
theorem dX7_knownMember_63 : decode cX7_knownMember 63 = .ok (.iload 4, 2) := by decide +kernel
theorem dX7_knownMember_65 : decode cX7_knownMember 65 = .ok (.bipush 6, 2) := by decide +kernel
theorem dX7_knownMember_67 : decode cX7_knownMember 67 = .ok (.imul, 1) := by decide +kernel
theorem dX7_knownMember_68 : decode cX7_knownMember 68 = .ok (.iload_n 2, 1) := by decide +kernel
theorem dX7_knownMember_69 : decode cX7_knownMember 69 = .ok (.iadd, 1) := by decide +kernel
theorem dX7_knownMember_70 : decode cX7_knownMember 70 = .ok (.ireturn, 1) := by decide +kernel
theorem dX7_passStop_0 : decode cX7_passStop 0 = .ok (.aload_n 0, 1) := by decide +kernel
theorem dX7_passStop_1 : decode cX7_passStop 1 = .ok (.getfield 39, 3) := by decide +kernel
theorem dX7_passStop_4 : decode cX7_passStop 4 = .ok (.iconst 3, 1) := by decide +kernel
theorem dX7_passStop_5 : decode cX7_passStop 5 = .ok (.if_icmp .eq 13, 3) := by decide +kernel
theorem dX7_passStop_8 : decode cX7_passStop 8 = .ok (.aload_n 0, 1) := by decide +kernel
theorem dX7_passStop_9 : decode cX7_passStop 9 = .ok (.iconst 1, 1) := by decide +kernel
theorem dX7_passStop_10 : decode cX7_passStop 10 = .ok (.aload_n 0, 1) := by decide +kernel
theorem dX7_passStop_11 : decode cX7_passStop 11 = .ok (.getfield 48, 3) := by decide +kernel
theorem dX7_passStop_14 : decode cX7_passStop 14 = .ok (.invokevirtual 63, 3) := by decide +kernel
theorem dX7_passStop_17 : decode cX7_passStop 17 = .ok (.ireturn, 1) := by decide +kernel
theorem dX7_passStop_18 : decode cX7_passStop 18 = .ok (.aload_n 0, 1) := by decide +kernel
theorem dX7_passStop_19 : decode cX7_passStop 19 = .ok (.invokevirtual 45, 3) := by decide +kernel
theorem dX7_passStop_22 : decode cX7_passStop 22 = .ok (.iconst 1, 1) := by decide +kernel
theorem dX7_passStop_23 : decode cX7_passStop 23 = .ok (.ireturn, 1) := by decide +kernel
theorem dX7_isStop_0 : decode cX7_isStop 0 = .ok (.aload_n 0, 1) := by decide +kernel
theorem dX7_isStop_1 : decode cX7_isStop 1 = .ok (.getfield 39, 3) := by decide +kernel
theorem dX7_isStop_4 : decode cX7_isStop 4 = .ok (.iconst 3, 1) := by decide +kernel
theorem dX7_isStop_5 : decode cX7_isStop 5 = .ok (.if_icmp .ne 7, 3) := by decide +kernel
theorem dX7_isStop_8 : decode cX7_isStop 8 = .ok (.iconst 1, 1) := by decide +kernel
theorem dX7_isStop_9 : decode cX7_isStop 9 = .ok (.goto 4, 3) := by decide +kernel
theorem dX7_isStop_12 : decode cX7_isStop 12 = .ok (.iconst 0, 1) := by decide +kernel
theorem dX7_isStop_13 : decode cX7_isStop 13 = .ok (.ireturn, 1) := by decide +kernel
theorem dX7_append_0 : decode cX7_append 0 = .ok (.bipush 24, 2) := by decide +kernel
theorem dX7_append_2 : decode cX7_append 2 = .ok (.istore_n 2, 1) := by decide +kernel
theorem dX7_append_3 : decode cX7_append 3 = .ok (.iload_n 2, 1) := by decide +kernel
theorem dX7_append_4 : decode cX7_append 4 = .ok (.ifCond .lt 45, 3) := by decide +kernel
theorem dX7_append_7 : decode cX7_append 7 = .ok (.aload_n 0, 1) := by decide +kernel
theorem dX7_append_8 : decode cX7_append 8 = .ok (.getfield 34, 3) := by decide +kernel
theorem dX7_append_11 : decode cX7_append 11 = .ok (.sipush 1500, 3) := by decide +kernel
theorem dX7_append_14 : decode cX7_append 14 = .ok (.if_icmp .ge 35, 3) := by decide +kernel
theorem dX7_append_17 : decode cX7_append 17 = .ok (.aload_n 0, 1) := by decide +kernel
theorem dX7_append_18 : decode cX7_append 18 = .ok (.getfield 9, 3) := by decide +kernel
theorem dX7_append_21 : decode cX7_append 21 = .ok (.aload_n 0, 1) := by decide +kernel
theorem dX7_append_22 : decode cX7_append 22 = .ok (.getfield 34, 3) := by decide +kernel
theorem dX7_append_25 : decode cX7_append 25 = .ok (.iload_n 1, 1) := by decide +kernel
theorem dX7_append_26 : decode cX7_append 26 = .ok (.iload_n 2, 1) := by decide +kernel
theorem dX7_append_27 : decode cX7_append 27 = .ok (.ishr, 1) := by decide +kernel
theorem dX7_append_28 : decode cX7_append 28 = .ok (.sipush 255, 3) := by decide +kernel
theorem dX7_append_31 : decode cX7_append 31 = .ok (.iand, 1) := by decide +kernel
theorem dX7_append_32 : decode cX7_append 32 = .ok (.iastore, 1) := by decide +kernel
theorem dX7_append_33 : decode cX7_append 33 = .ok (.aload_n 0, 1) := by decide +kernel
theorem dX7_append_34 : decode cX7_append 34 = .ok (.dup, 1) := by decide +kernel
theorem dX7_append_35 : decode cX7_append 35 = .ok (.getfield 34, 3) := by decide +kernel
theorem dX7_append_38 : decode cX7_append 38 = .ok (.iconst 1, 1) := by decide +kernel
theorem dX7_append_39 : decode cX7_append 39 = .ok (.iadd, 1) := by decide +kernel
theorem dX7_append_40 : decode cX7_append 40 = .ok (.putfield 34, 3) := by decide +kernel
theorem dX7_append_43 : decode cX7_append 43 = .ok (.iinc 2 (-8), 3) := by decide +kernel
theorem dX7_append_46 : decode cX7_append 46 = .ok (.goto (-43), 3) := by decide +kernel
theorem dX7_append_49 : decode cX7_append 49 = .ok (.return_, 1) := by decide +kernel
