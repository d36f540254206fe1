theorem dX12_holderOf_13 : decode cX12_holderOf 13 = .ok (.iand, 1) := by decide +kernel
theorem dX12_holderOf_14 : decode cX12_holderOf 14 = .ok (.invokevirtual 379, 3) := by decide +kernel
theorem dX12_holderOf_17 : decode cX12_holderOf 17 = .ok (.ireturn, 1) := by decide +kernel
theorem dX12_holder_0 : decode cX12_holder 0 = .ok (.aload_n 0, 1) := by decide +kernel
theorem dX12_holder_1 : decode cX12_holder 1 = .ok (.iconst 0, 1) := by decide +kernel
theorem dX12_holder_2 : decode cX12_holder 2 = .ok (.putfield 46, 3) := by decide +kernel
theorem dX12_holder_5 : decode cX12_holder 5 = .ok (.aload_n 0, 1) := by decide +kernel
theorem dX12_holder_6 : decode cX12_holder 6 = .ok (.iload_n 1, 1) := by decide +kernel
theorem dX12_holder_7 : decode cX12_holder 7 = .ok (.invokevirtual 259, 3) := by decide +kernel
theorem dX12_holder_10 : decode cX12_holder 10 = .ok (.ifCond .eq 20, 3) := by decide +kernel
theorem dX12_holder_13 : decode cX12_holder 13 = .ok (.aload_n 0, 1) := by decide +kernel
theorem dX12_holder_14 : decode cX12_holder 14 = .ok (.iload_n 2, 1) := by decide +kernel
theorem dX12_holder_15 : decode cX12_holder 15 = .ok (.invokevirtual 262, 3) := by decide +kernel
theorem dX12_holder_18 : decode cX12_holder 18 = .ok (.ifCond .eq 12, 3) := by decide +kernel
theorem dX12_holder_21 : decode cX12_holder 21 = .ok (.aload_n 0, 1) := by decide +kernel
theorem dX12_holder_22 : decode cX12_holder 22 = .ok (.iload_n 1, 1) := by decide +kernel
theorem dX12_holder_23 : decode cX12_holder 23 = .ok (.iload_n 2, 1) := by decide +kernel
theorem dX12_holder_24 : decode cX12_holder 24 = .ok (.invokevirtual 382, 3) := by decide +kernel
theorem dX12_holder_27 : decode cX12_holder 27 = .ok (.goto 4, 3) := by decide +kernel
theorem dX12_holder_30 : decode cX12_holder 30 = .ok (.iconst (-1), 1) := by decide +kernel
theorem dX12_holder_31 : decode cX12_holder 31 = .ok (.ireturn, 1) := by decide +kernel
theorem dX12_doubles_0 : decode cX12_doubles 0 = .ok (.aload_n 0, 1) := by decide +kernel
theorem dX12_doubles_1 : decode cX12_doubles 1 = .ok (.iconst 0, 1) := by decide +kernel
theorem dX12_doubles_2 : decode cX12_doubles 2 = .ok (.putfield 46, 3) := by decide +kernel
theorem dX12_doubles_5 : decode cX12_doubles 5 = .ok (.aload_n 0, 1) := by decide +kernel
theorem dX12_doubles_6 : decode cX12_doubles 6 = .ok (.getfield 224, 3) := by decide +kernel
theorem dX12_doubles_9 : decode cX12_doubles 9 = .ok (.ifCond .ne 5, 3) := by decide +kernel
theorem dX12_doubles_12 : decode cX12_doubles 12 = .ok (.iconst (-1), 1) := by decide +kernel
theorem dX12_doubles_13 : decode cX12_doubles 13 = .ok (.ireturn, 1) := by decide +kernel
theorem dX12_doubles_14 : decode cX12_doubles 14 = .ok (.iconst 0, 1) := by decide +kernel
theorem dX12_doubles_15 : decode cX12_doubles 15 = .ok (.istore_n 1, 1) := by decide +kernel
theorem dX12_doubles_16 : decode cX12_doubles 16 = .ok (.iconst 0, 1) := by decide +kernel
theorem dX12_doubles_17 : decode cX12_doubles 17 = .ok (.istore_n 2, 1) := by decide +kernel
theorem dX12_doubles_18 : decode cX12_doubles 18 = .ok (.iload_n 2, 1) := by decide +kernel
theorem dX12_doubles_19 : decode cX12_doubles 19 = .ok (.aload_n 0, 1) := by decide +kernel
theorem dX12_doubles_20 : decode cX12_doubles 20 = .ok (.invokevirtual 253, 3) := by decide +kernel
theorem dX12_doubles_23 : decode cX12_doubles 23 = .ok (.if_icmp .ge 22, 3) := by decide +kernel
theorem dX12_doubles_26 : decode cX12_doubles 26 = .ok (.iload_n 1, 1) := by decide +kernel
theorem dX12_doubles_27 : decode cX12_doubles 27 = .ok (.aload_n 0, 1) := by decide +kernel
theorem dX12_doubles_28 : decode cX12_doubles 28 = .ok (.iload_n 2, 1) := by decide +kernel
theorem dX12_doubles_29 : decode cX12_doubles 29 = .ok (.invokevirtual 353, 3) := by decide +kernel
theorem dX12_doubles_32 : decode cX12_doubles 32 = .ok (.invokestatic 178, 3) := by decide +kernel
theorem dX12_doubles_35 : decode cX12_doubles 35 = .ok (.iload_n 2, 1) := by decide +kernel
theorem dX12_doubles_36 : decode cX12_doubles 36 = .ok (.ishl, 1) := by decide +kernel
theorem dX12_doubles_37 : decode cX12_doubles 37 = .ok (.ior, 1) := by decide +kernel
theorem dX12_doubles_38 : decode cX12_doubles 38 = .ok (.istore_n 1, 1) := by decide +kernel
theorem dX12_doubles_39 : decode cX12_doubles 39 = .ok (.iinc 2 1, 3) := by decide +kernel
theorem dX12_doubles_42 : decode cX12_doubles 42 = .ok (.goto (-24), 3) := by decide +kernel
theorem dX12_doubles_45 : decode cX12_doubles 45 = .ok (.iload_n 1, 1) := by decide +kernel
theorem dX12_doubles_46 : decode cX12_doubles 46 = .ok (.ireturn, 1) := by decide +kernel
theorem dX12_orphans_0 : decode cX12_orphans 0 = .ok (.aload_n 0, 1) := by decide +kernel
theorem dX12_orphans_1 : decode cX12_orphans 1 = .ok (.iconst 0, 1) := by decide +kernel
theorem dX12_orphans_2 : decode cX12_orphans 2 = .ok (.putfield 46, 3) := by decide +kernel
theorem dX12_orphans_5 : decode cX12_orphans 5 = .ok (.aload_n 0, 1) := by decide +kernel
theorem dX12_orphans_6 : decode cX12_orphans 6 = .ok (.getfield 224, 3) := by decide +kernel
theorem dX12_orphans_9 : decode cX12_orphans 9 = .ok (.ifCond .ne 5, 3) := by decide +kernel
theorem dX12_orphans_12 : decode cX12_orphans 12 = .ok (.iconst (-1), 1) := by decide +kernel
theorem dX12_orphans_13 : decode cX12_orphans 13 = .ok (.ireturn, 1) := by decide +kernel
theorem dX12_orphans_14 : decode cX12_orphans 14 = .ok (.iconst 0, 1) := by decide +kernel
theorem dX12_orphans_15 : decode cX12_orphans 15 = .ok (.istore_n 1, 1) := by decide +kernel
theorem dX12_orphans_16 : decode cX12_orphans 16 = .ok (.iconst 0, 1) := by decide +kernel
theorem dX12_orphans_17 : decode cX12_orphans 17 = .ok (.istore_n 2, 1) := by decide +kernel
theorem dX12_orphans_18 : decode cX12_orphans 18 = .ok (.iload_n 2, 1) := by decide +kernel
theorem dX12_orphans_19 : decode cX12_orphans 19 = .ok (.aload_n 0, 1) := by decide +kernel
theorem dX12_orphans_20 : decode cX12_orphans 20 = .ok (.invokevirtual 253, 3) := by decide +kernel
theorem dX12_orphans_23 : decode cX12_orphans 23 = .ok (.if_icmp .ge 22, 3) := by decide +kernel
theorem dX12_orphans_26 : decode cX12_orphans 26 = .ok (.iload_n 1, 1) := by decide +kernel
theorem dX12_orphans_27 : decode cX12_orphans 27 = .ok (.aload_n 0, 1) := by decide +kernel
theorem dX12_orphans_28 : decode cX12_orphans 28 = .ok (.iload_n 2, 1) := by decide +kernel
theorem dX12_orphans_29 : decode cX12_orphans 29 = .ok (.invokevirtual 350, 3) := by decide +kernel
theorem dX12_orphans_32 : decode cX12_orphans 32 = .ok (.invokestatic 178, 3) := by decide +kernel
theorem dX12_orphans_35 : decode cX12_orphans 35 = .ok (.iload_n 2, 1) := by decide +kernel
theorem dX12_orphans_36 : decode cX12_orphans 36 = .ok (.ishl, 1) := by decide +kernel
theorem dX12_orphans_37 : decode cX12_orphans 37 = .ok (.ior, 1) := by decide +kernel
theorem dX12_orphans_38 : decode cX12_orphans 38 = .ok (.istore_n 1, 1) := by decide +kernel
theorem dX12_orphans_39 : decode cX12_orphans 39 = .ok (.iinc 2 1, 3) := by decide +kernel
theorem dX12_orphans_42 : decode cX12_orphans 42 = .ok (.goto (-24), 3) := by decide +kernel
theorem dX12_orphans_45 : decode cX12_orphans 45 = .ok (.iload_n 1, 1) := by decide +kernel
theorem dX12_orphans_46 : decode cX12_orphans 46 = .ok (.ireturn, 1) := by decide +kernel
theorem dX12_holds_0 : decode cX12_holds 0 = .ok (.aload_n 0, 1) := by decide +kernel
theorem dX12_holds_1 : decode cX12_holds 1 = .ok (.iconst 0, 1) := by decide +kernel
theorem dX12_holds_2 : decode cX12_holds 2 = .ok (.putfield 46, 3) := by decide +kernel
theorem dX12_holds_5 : decode cX12_holds 5 = .ok (.aload_n 0, 1) := by decide +kernel
theorem dX12_holds_6 : decode cX12_holds 6 = .ok (.iload_n 1, 1) := by decide +kernel
theorem dX12_holds_7 : decode cX12_holds 7 = .ok (.invokevirtual 262, 3) := by decide +kernel
theorem dX12_holds_10 : decode cX12_holds 10 = .ok (.ifCond .ne 5, 3) := by decide +kernel
theorem dX12_holds_13 : decode cX12_holds 13 = .ok (.iconst (-1), 1) := by decide +kernel
theorem dX12_holds_14 : decode cX12_holds 14 = .ok (.ireturn, 1) := by decide +kernel
theorem dX12_holds_15 : decode cX12_holds 15 = .ok (.iconst 0, 1) := by decide +kernel
theorem dX12_holds_16 : decode cX12_holds 16 = .ok (.istore_n 2, 1) := by decide +kernel
theorem dX12_holds_17 : decode cX12_holds 17 = .ok (.iconst 0, 1) := by decide +kernel
theorem dX12_holds_18 : decode cX12_holds 18 = .ok (.istore_n 3, 1) := by decide +kernel
theorem dX12_holds_19 : decode cX12_holds 19 = .ok (.iload_n 3, 1) := by decide +kernel
theorem dX12_holds_20 : decode cX12_holds 20 = .ok (.aload_n 0, 1) := by decide +kernel
theorem dX12_holds_21 : decode cX12_holds 21 = .ok (.invokevirtual 253, 3) := by decide +kernel
theorem dX12_holds_24 : decode cX12_holds 24 = .ok (.if_icmp .ge 23, 3) := by decide +kernel
theorem dX12_holds_27 : decode cX12_holds 27 = .ok (.iload_n 2, 1) := by decide +kernel
theorem dX12_holds_28 : decode cX12_holds 28 = .ok (.aload_n 0, 1) := by decide +kernel
theorem dX12_holds_29 : decode cX12_holds 29 = .ok (.iload_n 3, 1) := by decide +kernel
theorem dX12_holds_30 : decode cX12_holds 30 = .ok (.iload_n 1, 1) := by decide +kernel
theorem dX12_holds_31 : decode cX12_holds 31 = .ok (.invokevirtual 299, 3) := by decide +kernel
theorem dX12_holds_34 : decode cX12_holds 34 = .ok (.invokestatic 178, 3) := by decide +kernel
theorem dX12_holds_37 : decode cX12_holds 37 = .ok (.iload_n 3, 1) := by decide +kernel
theorem dX12_holds_38 : decode cX12_holds 38 = .ok (.ishl, 1) := by decide +kernel
theorem dX12_holds_39 : decode cX12_holds 39 = .ok (.ior, 1) := by decide +kernel
theorem dX12_holds_40 : decode cX12_holds 40 = .ok (.istore_n 2, 1) := by decide +kernel
theorem dX12_holds_41 : decode cX12_holds 41 = .ok (.iinc 3 1, 3) := by decide +kernel
theorem dX12_holds_44 : decode cX12_holds 44 = .ok (.goto (-25), 3) := by decide +kernel
theorem dX12_holds_47 : decode cX12_holds 47 = .ok (.iload_n 2, 1) := by decide +kernel
theorem dX12_holds_48 : decode cX12_holds 48 = .ok (.ireturn, 1) := by decide +kernel
theorem dX12_laysSlots_0 : decode cX12_laysSlots 0 = .ok (.aload_n 0, 1) := by decide +kernel
theorem dX12_laysSlots_1 : decode cX12_laysSlots 1 = .ok (.iload_n 1, 1) := by decide +kernel
theorem dX12_laysSlots_2 : decode cX12_laysSlots 2 = .ok (.iconst 1, 1) := by decide +kernel
theorem dX12_laysSlots_3 : decode cX12_laysSlots 3 = .ok (.invokevirtual 338, 3) := by decide +kernel
theorem dX12_laysSlots_6 : decode cX12_laysSlots 6 = .ok (.aload_n 0, 1) := by decide +kernel
theorem dX12_laysSlots_7 : decode cX12_laysSlots 7 = .ok (.iload_n 2, 1) := by decide +kernel
theorem dX12_laysSlots_8 : decode cX12_laysSlots 8 = .ok (.invokevirtual 376, 3) := by decide +kernel
theorem dX12_laysSlots_11 : decode cX12_laysSlots 11 = .ok (.iand, 1) := by decide +kernel
theorem dX12_laysSlots_12 : decode cX12_laysSlots 12 = .ok (.istore_n 3, 1) := by decide +kernel
theorem dX12_laysSlots_13 : decode cX12_laysSlots 13 = .ok (.iconst 0, 1) := by decide +kernel
theorem dX12_laysSlots_14 : decode cX12_laysSlots 14 = .ok (.istore 4, 2) := by decide +kernel
theorem dX12_laysSlots_16 : decode cX12_laysSlots 16 = .ok (.iload 4, 2) := by decide +kernel
theorem dX12_laysSlots_18 : decode cX12_laysSlots 18 = .ok (.bipush 6, 2) := by decide +kernel
theorem dX12_laysSlots_20 : decode cX12_laysSlots 20 = .ok (.if_icmp .ge 17, 3) := by decide +kernel
theorem dX12_laysSlots_23 : decode cX12_laysSlots 23 = .ok (.aload_n 0, 1) := by decide +kernel
theorem dX12_laysSlots_24 : decode cX12_laysSlots 24 = .ok (.getfield 43, 3) := by decide +kernel
theorem dX12_laysSlots_27 : decode cX12_laysSlots 27 = .ok (.iload 4, 2) := by decide +kernel
theorem dX12_laysSlots_29 : decode cX12_laysSlots 29 = .ok (.iconst 0, 1) := by decide +kernel
theorem dX12_laysSlots_30 : decode cX12_laysSlots 30 = .ok (.iastore, 1) := by decide +kernel
theorem dX12_laysSlots_31 : decode cX12_laysSlots 31 = .ok (.iinc 4 1, 3) := by decide +kernel
theorem dX12_laysSlots_34 : decode cX12_laysSlots 34 = .ok (.goto (-18), 3) := by decide +kernel
theorem dX12_laysSlots_37 : decode cX12_laysSlots 37 = .ok (.iconst 0, 1) := by decide +kernel
theorem dX12_laysSlots_38 : decode cX12_laysSlots 38 = .ok (.istore 4, 2) := by decide +kernel
theorem dX12_laysSlots_40 : decode cX12_laysSlots 40 = .ok (.iload 4, 2) := by decide +kernel
theorem dX12_laysSlots_42 : decode cX12_laysSlots 42 = .ok (.aload_n 0, 1) := by decide +kernel
theorem dX12_laysSlots_43 : decode cX12_laysSlots 43 = .ok (.getfield 17, 3) := by decide +kernel
theorem dX12_laysSlots_46 : decode cX12_laysSlots 46 = .ok (.bipush 43, 2) := by decide +kernel
theorem dX12_laysSlots_48 : decode cX12_laysSlots 48 = .ok (.iload_n 1, 1) := by decide +kernel
theorem dX12_laysSlots_49 : decode cX12_laysSlots 49 = .ok (.iadd, 1) := by decide +kernel
theorem dX12_laysSlots_50 : decode cX12_laysSlots 50 = .ok (.iaload, 1) := by decide +kernel
theorem dX12_laysSlots_51 : decode cX12_laysSlots 51 = .ok (.if_icmp .ge 146, 3) := by decide +kernel
theorem dX12_laysSlots_54 : decode cX12_laysSlots 54 = .ok (.iconst (-1), 1) := by decide +kernel
theorem dX12_laysSlots_55 : decode cX12_laysSlots 55 = .ok (.istore 5, 2) := by decide +kernel
theorem dX12_laysSlots_57 : decode cX12_laysSlots 57 = .ok (.iconst 0, 1) := by decide +kernel
theorem dX12_laysSlots_58 : decode cX12_laysSlots 58 = .ok (.istore 6, 2) := by decide +kernel
theorem dX12_laysSlots_60 : decode cX12_laysSlots 60 = .ok (.iload 6, 2) := by decide +kernel
theorem dX12_laysSlots_62 : decode cX12_laysSlots 62 = .ok (.aload_n 0, 1) := by decide +kernel
theorem dX12_laysSlots_63 : decode cX12_laysSlots 63 = .ok (.invokevirtual 256, 3) := by decide +kernel
theorem dX12_laysSlots_66 : decode cX12_laysSlots 66 = .ok (.if_icmp .ge 99, 3) := by decide +kernel
theorem dX12_laysSlots_69 : decode cX12_laysSlots 69 = .ok (.iload_n 3, 1) := by decide +kernel
theorem dX12_laysSlots_70 : decode cX12_laysSlots 70 = .ok (.iload 6, 2) := by decide +kernel
theorem dX12_laysSlots_72 : decode cX12_laysSlots 72 = .ok (.invokestatic 186, 3) := by decide +kernel
theorem dX12_laysSlots_75 : decode cX12_laysSlots 75 = .ok (.ifCond .eq 84, 3) := by decide +kernel
theorem dX12_laysSlots_78 : decode cX12_laysSlots 78 = .ok (.aload_n 0, 1) := by decide +kernel
theorem dX12_laysSlots_79 : decode cX12_laysSlots 79 = .ok (.getfield 17, 3) := by decide +kernel
theorem dX12_laysSlots_82 : decode cX12_laysSlots 82 = .ok (.bipush 83, 2) := by decide +kernel
theorem dX12_laysSlots_84 : decode cX12_laysSlots 84 = .ok (.iload_n 1, 1) := by decide +kernel
theorem dX12_laysSlots_85 : decode cX12_laysSlots 85 = .ok (.iload 6, 2) := by decide +kernel
theorem dX12_laysSlots_87 : decode cX12_laysSlots 87 = .ok (.invokestatic 190, 3) := by decide +kernel
theorem dX12_laysSlots_90 : decode cX12_laysSlots 90 = .ok (.iadd, 1) := by decide +kernel
theorem dX12_laysSlots_91 : decode cX12_laysSlots 91 = .ok (.iaload, 1) := by decide +kernel
theorem dX12_laysSlots_92 : decode cX12_laysSlots 92 = .ok (.ifCond .ne 6, 3) := by decide +kernel
theorem dX12_laysSlots_95 : decode cX12_laysSlots 95 = .ok (.goto 64, 3) := by decide +kernel
theorem dX12_laysSlots_98 : decode cX12_laysSlots 98 = .ok (.iload 5, 2) := by decide +kernel
theorem dX12_laysSlots_100 : decode cX12_laysSlots 100 = .ok (.iconst (-1), 1) := by decide +kernel
theorem dX12_laysSlots_101 : decode cX12_laysSlots 101 = .ok (.if_icmp .eq 54, 3) := by decide +kernel
theorem dX12_laysSlots_104 : decode cX12_laysSlots 104 = .ok (.aload_n 0, 1) := by decide +kernel
theorem dX12_laysSlots_105 : decode cX12_laysSlots 105 = .ok (.getfield 17, 3) := by decide +kernel
theorem dX12_laysSlots_108 : decode cX12_laysSlots 108 = .ok (.bipush 83, 2) := by decide +kernel
theorem dX12_laysSlots_110 : decode cX12_laysSlots 110 = .ok (.iload_n 1, 1) := by decide +kernel
theorem dX12_laysSlots_111 : decode cX12_laysSlots 111 = .ok (.iload 6, 2) := by decide +kernel
theorem dX12_laysSlots_113 : decode cX12_laysSlots 113 = .ok (.invokestatic 190, 3) := by decide +kernel
theorem dX12_laysSlots_116 : decode cX12_laysSlots 116 = .ok (.iadd, 1) := by decide +kernel
theorem dX12_laysSlots_117 : decode cX12_laysSlots 117 = .ok (.iaload, 1) := by decide +kernel
theorem dX12_laysSlots_118 : decode cX12_laysSlots 118 = .ok (.aload_n 0, 1) := by decide +kernel
theorem dX12_laysSlots_119 : decode cX12_laysSlots 119 = .ok (.getfield 43, 3) := by decide +kernel
theorem dX12_laysSlots_122 : decode cX12_laysSlots 122 = .ok (.iload 5, 2) := by decide +kernel
theorem dX12_laysSlots_124 : decode cX12_laysSlots 124 = .ok (.iaload, 1) := by decide +kernel
theorem dX12_laysSlots_125 : decode cX12_laysSlots 125 = .ok (.iconst 1, 1) := by decide +kernel
theorem dX12_laysSlots_126 : decode cX12_laysSlots 126 = .ok (.iadd, 1) := by decide +kernel
theorem dX12_laysSlots_127 : decode cX12_laysSlots 127 = .ok (.imul, 1) := by decide +kernel
theorem dX12_laysSlots_128 : decode cX12_laysSlots 128 = .ok (.aload_n 0, 1) := by decide +kernel
theorem dX12_laysSlots_129 : decode cX12_laysSlots 129 = .ok (.getfield 17, 3) := by decide +kernel
theorem dX12_laysSlots_132 : decode cX12_laysSlots 132 = .ok (.bipush 83, 2) := by decide +kernel
theorem dX12_laysSlots_134 : decode cX12_laysSlots 134 = .ok (.iload_n 1, 1) := by decide +kernel
theorem dX12_laysSlots_135 : decode cX12_laysSlots 135 = .ok (.iload 5, 2) := by decide +kernel
theorem dX12_laysSlots_137 : decode cX12_laysSlots 137 = .ok (.invokestatic 190, 3) := by decide +kernel
theorem dX12_laysSlots_140 : decode cX12_laysSlots 140 = .ok (.iadd, 1) := by decide +kernel
theorem dX12_laysSlots_141 : decode cX12_laysSlots 141 = .ok (.iaload, 1) := by decide +kernel
theorem dX12_laysSlots_142 : decode cX12_laysSlots 142 = .ok (.aload_n 0, 1) := by decide +kernel
theorem dX12_laysSlots_143 : decode cX12_laysSlots 143 = .ok (.getfield 43, 3) := by decide +kernel
theorem dX12_laysSlots_146 : decode cX12_laysSlots 146 = .ok (.iload 6, 2) := by decide +kernel
theorem dX12_laysSlots_148 : decode cX12_laysSlots 148 = .ok (.iaload, 1) := by decide +kernel
theorem dX12_laysSlots_149 : decode cX12_laysSlots 149 = .ok (.iconst 1, 1) := by decide +kernel
theorem dX12_laysSlots_150 : decode cX12_laysSlots 150 = .ok (.iadd, 1) := by decide +kernel
theorem dX12_laysSlots_151 : decode cX12_laysSlots 151 = .ok (.imul, 1) := by decide +kernel
theorem dX12_laysSlots_152 : decode cX12_laysSlots 152 = .ok (.if_icmp .le 7, 3) := by decide +kernel
theorem dX12_laysSlots_155 : decode cX12_laysSlots 155 = .ok (.iload 6, 2) := by decide +kernel
theorem dX12_laysSlots_157 : decode cX12_laysSlots 157 = .ok (.istore 5, 2) := by decide +kernel
theorem dX12_laysSlots_159 : decode cX12_laysSlots 159 = .ok (.iinc 6 1, 3) := by decide +kernel
theorem dX12_laysSlots_162 : decode cX12_laysSlots 162 = .ok (.goto (-102), 3) := by decide +kernel
theorem dX12_laysSlots_165 : decode cX12_laysSlots 165 = .ok (.aload_n 0, 1) := by decide +kernel
theorem dX12_laysSlots_166 : decode cX12_laysSlots 166 = .ok (.getfield 40, 3) := by decide +kernel
theorem dX12_laysSlots_169 : decode cX12_laysSlots 169 = .ok (.iload 4, 2) := by decide +kernel
theorem dX12_laysSlots_171 : decode cX12_laysSlots 171 = .ok (.iload 5, 2) := by decide +kernel
theorem dX12_laysSlots_173 : decode cX12_laysSlots 173 = .ok (.iastore, 1) := by decide +kernel
theorem dX12_laysSlots_174 : decode cX12_laysSlots 174 = .ok (.iload 5, 2) := by decide +kernel
theorem dX12_laysSlots_176 : decode cX12_laysSlots 176 = .ok (.iconst (-1), 1) := by decide +kernel
theorem dX12_laysSlots_177 : decode cX12_laysSlots 177 = .ok (.if_icmp .eq 14, 3) := by decide +kernel
theorem dX12_laysSlots_180 : decode cX12_laysSlots 180 = .ok (.aload_n 0, 1) := by decide +kernel
theorem dX12_laysSlots_181 : decode cX12_laysSlots 181 = .ok (.getfield 43, 3) := by decide +kernel
theorem dX12_laysSlots_184 : decode cX12_laysSlots 184 = .ok (.iload 5, 2) := by decide +kernel
theorem dX12_laysSlots_186 : decode cX12_laysSlots 186 = .ok (.dup2, 1) := by decide +kernel
theorem dX12_laysSlots_187 : decode cX12_laysSlots 187 = .ok (.iaload, 1) := by decide +kernel
theorem dX12_laysSlots_188 : decode cX12_laysSlots 188 = .ok (.iconst 1, 1) := by decide +kernel
theorem dX12_laysSlots_189 : decode cX12_laysSlots 189 = .ok (.iadd, 1) := by decide +kernel
theorem dX12_laysSlots_190 : decode cX12_laysSlots 190 = .ok (.iastore, 1) := by decide +kernel
theorem dX12_laysSlots_191 : decode cX12_laysSlots 191 = .ok (.iinc 4 1, 3) := by decide +kernel
theorem dX12_laysSlots_194 : decode cX12_laysSlots 194 = .ok (.goto (-154), 3) := by decide +kernel
theorem dX12_laysSlots_197 : decode cX12_laysSlots 197 = .ok (.return_, 1) := by decide +kernel
theorem dX12_slot_0 : decode cX12_slot 0 = .ok (.aload_n 0, 1) := by decide +kernel
theorem dX12_slot_1 : decode cX12_slot 1 = .ok (.iconst 0, 1) := by decide +kernel
theorem dX12_slot_2 : decode cX12_slot 2 = .ok (.putfield 46, 3) := by decide +kernel
theorem dX12_slot_5 : decode cX12_slot 5 = .ok (.aload_n 0, 1) := by decide +kernel
theorem dX12_slot_6 : decode cX12_slot 6 = .ok (.iload_n 1, 1) := by decide +kernel
theorem dX12_slot_7 : decode cX12_slot 7 = .ok (.invokevirtual 259, 3) := by decide +kernel
theorem dX12_slot_10 : decode cX12_slot 10 = .ok (.ifCond .eq 32, 3) := by decide +kernel
theorem dX12_slot_13 : decode cX12_slot 13 = .ok (.aload_n 0, 1) := by decide +kernel
theorem dX12_slot_14 : decode cX12_slot 14 = .ok (.iload_n 2, 1) := by decide +kernel
theorem dX12_slot_15 : decode cX12_slot 15 = .ok (.invokevirtual 262, 3) := by decide +kernel
theorem dX12_slot_18 : decode cX12_slot 18 = .ok (.ifCond .eq 24, 3) := by decide +kernel
theorem dX12_slot_21 : decode cX12_slot 21 = .ok (.iload_n 3, 1) := by decide +kernel
theorem dX12_slot_22 : decode cX12_slot 22 = .ok (.i2l, 1) := by decide +kernel
theorem dX12_slot_23 : decode cX12_slot 23 = .ok (.lconst 0, 1) := by decide +kernel
theorem dX12_slot_24 : decode cX12_slot 24 = .ok (.aload_n 0, 1) := by decide +kernel
theorem dX12_slot_25 : decode cX12_slot 25 = .ok (.getfield 17, 3) := by decide +kernel
theorem dX12_slot_28 : decode cX12_slot 28 = .ok (.bipush 43, 2) := by decide +kernel
theorem dX12_slot_30 : decode cX12_slot 30 = .ok (.iload_n 1, 1) := by decide +kernel
theorem dX12_slot_31 : decode cX12_slot 31 = .ok (.iadd, 1) := by decide +kernel
theorem dX12_slot_32 : decode cX12_slot 32 = .ok (.iaload, 1) := by decide +kernel
theorem dX12_slot_33 : decode cX12_slot 33 = .ok (.iconst 1, 1) := by decide +kernel
theorem dX12_slot_34 : decode cX12_slot 34 = .ok (.isub, 1) := by decide +kernel
theorem dX12_slot_35 : decode cX12_slot 35 = .ok (.i2l, 1) := by decide +kernel
theorem dX12_slot_36 : decode cX12_slot 36 = .ok (.invokestatic 56, 3) := by decide +kernel
theorem dX12_slot_39 : decode cX12_slot 39 = .ok (.ifCond .ne 5, 3) := by decide +kernel
theorem dX12_slot_42 : decode cX12_slot 42 = .ok (.iconst (-1), 1) := by decide +kernel
theorem dX12_slot_43 : decode cX12_slot 43 = .ok (.ireturn, 1) := by decide +kernel
theorem dX12_slot_44 : decode cX12_slot 44 = .ok (.aload_n 0, 1) := by decide +kernel
theorem dX12_slot_45 : decode cX12_slot 45 = .ok (.iload_n 1, 1) := by decide +kernel
theorem dX12_slot_46 : decode cX12_slot 46 = .ok (.iload_n 2, 1) := by decide +kernel
theorem dX12_slot_47 : decode cX12_slot 47 = .ok (.invokevirtual 385, 3) := by decide +kernel
theorem dX12_slot_50 : decode cX12_slot 50 = .ok (.aload_n 0, 1) := by decide +kernel
theorem dX12_slot_51 : decode cX12_slot 51 = .ok (.getfield 40, 3) := by decide +kernel
theorem dX12_slot_54 : decode cX12_slot 54 = .ok (.iload_n 3, 1) := by decide +kernel
theorem dX12_slot_55 : decode cX12_slot 55 = .ok (.iaload, 1) := by decide +kernel
theorem dX12_slot_56 : decode cX12_slot 56 = .ok (.ireturn, 1) := by decide +kernel
theorem dX12_slots_0 : decode cX12_slots 0 = .ok (.aload_n 0, 1) := by decide +kernel
theorem dX12_slots_1 : decode cX12_slots 1 = .ok (.iconst 0, 1) := by decide +kernel
theorem dX12_slots_2 : decode cX12_slots 2 = .ok (.putfield 46, 3) := by decide +kernel
theorem dX12_slots_5 : decode cX12_slots 5 = .ok (.aload_n 0, 1) := by decide +kernel
theorem dX12_slots_6 : decode cX12_slots 6 = .ok (.iload_n 1, 1) := by decide +kernel
theorem dX12_slots_7 : decode cX12_slots 7 = .ok (.invokevirtual 259, 3) := by decide +kernel
theorem dX12_slots_10 : decode cX12_slots 10 = .ok (.ifCond .eq 11, 3) := by decide +kernel
theorem dX12_slots_13 : decode cX12_slots 13 = .ok (.aload_n 0, 1) := by decide +kernel
theorem dX12_slots_14 : decode cX12_slots 14 = .ok (.iload_n 2, 1) := by decide +kernel
theorem dX12_slots_15 : decode cX12_slots 15 = .ok (.invokevirtual 262, 3) := by decide +kernel
theorem dX12_slots_18 : decode cX12_slots 18 = .ok (.ifCond .ne 5, 3) := by decide +kernel
theorem dX12_slots_21 : decode cX12_slots 21 = .ok (.iconst (-1), 1) := by decide +kernel
theorem dX12_slots_22 : decode cX12_slots 22 = .ok (.ireturn, 1) := by decide +kernel
theorem dX12_slots_23 : decode cX12_slots 23 = .ok (.aload_n 0, 1) := by decide +kernel
theorem dX12_slots_24 : decode cX12_slots 24 = .ok (.iload_n 1, 1) := by decide +kernel
theorem dX12_slots_25 : decode cX12_slots 25 = .ok (.iload_n 2, 1) := by decide +kernel
theorem dX12_slots_26 : decode cX12_slots 26 = .ok (.invokevirtual 385, 3) := by decide +kernel
theorem dX12_slots_29 : decode cX12_slots 29 = .ok (.aload_n 0, 1) := by decide +kernel
theorem dX12_slots_30 : decode cX12_slots 30 = .ok (.getfield 43, 3) := by decide +kernel
theorem dX12_slots_33 : decode cX12_slots 33 = .ok (.iload_n 2, 1) := by decide +kernel
theorem dX12_slots_34 : decode cX12_slots 34 = .ok (.iaload, 1) := by decide +kernel
theorem dX12_slots_35 : decode cX12_slots 35 = .ok (.ireturn, 1) := by decide +kernel
theorem dX12_host_0 : decode cX12_host 0 = .ok (.aload_n 0, 1) := by decide +kernel
theorem dX12_host_1 : decode cX12_host 1 = .ok (.iconst 0, 1) := by decide +kernel
theorem dX12_host_2 : decode cX12_host 2 = .ok (.putfield 46, 3) := by decide +kernel
theorem dX12_host_5 : decode cX12_host 5 = .ok (.aload_n 0, 1) := by decide +kernel
theorem dX12_host_6 : decode cX12_host 6 = .ok (.iload_n 1, 1) := by decide +kernel
theorem dX12_host_7 : decode cX12_host 7 = .ok (.invokevirtual 259, 3) := by decide +kernel
theorem dX12_host_10 : decode cX12_host 10 = .ok (.ifCond .eq 15, 3) := by decide +kernel
theorem dX12_host_13 : decode cX12_host 13 = .ok (.aload_n 0, 1) := by decide +kernel
theorem dX12_host_14 : decode cX12_host 14 = .ok (.iload_n 2, 1) := by decide +kernel
theorem dX12_host_15 : decode cX12_host 15 = .ok (.invokevirtual 262, 3) := by decide +kernel
theorem dX12_host_18 : decode cX12_host 18 = .ok (.ifCond .eq 7, 3) := by decide +kernel
theorem dX12_host_21 : decode cX12_host 21 = .ok (.iload_n 3, 1) := by decide +kernel
theorem dX12_host_22 : decode cX12_host 22 = .ok (.ifCond .ge 5, 3) := by decide +kernel
theorem dX12_host_25 : decode cX12_host 25 = .ok (.iconst (-1), 1) := by decide +kernel
theorem dX12_host_26 : decode cX12_host 26 = .ok (.ireturn, 1) := by decide +kernel
theorem dX12_host_27 : decode cX12_host 27 = .ok (.aload_n 0, 1) := by decide +kernel
theorem dX12_host_28 : decode cX12_host 28 = .ok (.iload_n 1, 1) := by decide +kernel
theorem dX12_host_29 : decode cX12_host 29 = .ok (.iload_n 2, 1) := by decide +kernel
theorem dX12_host_30 : decode cX12_host 30 = .ok (.invokevirtual 385, 3) := by decide +kernel
theorem dX12_host_33 : decode cX12_host 33 = .ok (.aload_n 0, 1) := by decide +kernel
theorem dX12_host_34 : decode cX12_host 34 = .ok (.getfield 40, 3) := by decide +kernel
theorem dX12_host_37 : decode cX12_host 37 = .ok (.iload_n 3, 1) := by decide +kernel
theorem dX12_host_38 : decode cX12_host 38 = .ok (.aload_n 0, 1) := by decide +kernel
theorem dX12_host_39 : decode cX12_host 39 = .ok (.getfield 17, 3) := by decide +kernel
theorem dX12_host_42 : decode cX12_host 42 = .ok (.bipush 43, 2) := by decide +kernel
theorem dX12_host_44 : decode cX12_host 44 = .ok (.iload_n 1, 1) := by decide +kernel
theorem dX12_host_45 : decode cX12_host 45 = .ok (.iadd, 1) := by decide +kernel
theorem dX12_host_46 : decode cX12_host 46 = .ok (.iaload, 1) := by decide +kernel
theorem dX12_host_47 : decode cX12_host 47 = .ok (.irem, 1) := by decide +kernel
theorem dX12_host_48 : decode cX12_host 48 = .ok (.iaload, 1) := by decide +kernel
theorem dX12_host_49 : decode cX12_host 49 = .ok (.ireturn, 1) := by decide +kernel
theorem dX12_load_0 : decode cX12_load 0 = .ok (.aload_n 0, 1) := by decide +kernel
theorem dX12_load_1 : decode cX12_load 1 = .ok (.iconst 0, 1) := by decide +kernel
theorem dX12_load_2 : decode cX12_load 2 = .ok (.putfield 46, 3) := by decide +kernel
theorem dX12_load_5 : decode cX12_load 5 = .ok (.aload_n 0, 1) := by decide +kernel
theorem dX12_load_6 : decode cX12_load 6 = .ok (.iload_n 1, 1) := by decide +kernel
theorem dX12_load_7 : decode cX12_load 7 = .ok (.invokevirtual 259, 3) := by decide +kernel
theorem dX12_load_10 : decode cX12_load 10 = .ok (.ifCond .eq 23, 3) := by decide +kernel
theorem dX12_load_13 : decode cX12_load 13 = .ok (.aload_n 0, 1) := by decide +kernel
theorem dX12_load_14 : decode cX12_load 14 = .ok (.iload_n 2, 1) := by decide +kernel
theorem dX12_load_15 : decode cX12_load 15 = .ok (.invokevirtual 262, 3) := by decide +kernel
theorem dX12_load_18 : decode cX12_load 18 = .ok (.ifCond .eq 15, 3) := by decide +kernel
theorem dX12_load_21 : decode cX12_load 21 = .ok (.iload_n 3, 1) := by decide +kernel
theorem dX12_load_22 : decode cX12_load 22 = .ok (.i2l, 1) := by decide +kernel
theorem dX12_load_23 : decode cX12_load 23 = .ok (.lconst 1, 1) := by decide +kernel
theorem dX12_load_24 : decode cX12_load 24 = .ok (.ldc2_w 388, 3) := by decide +kernel
theorem dX12_load_27 : decode cX12_load 27 = .ok (.invokestatic 56, 3) := by decide +kernel
theorem dX12_load_30 : decode cX12_load 30 = .ok (.ifCond .ne 5, 3) := by decide +kernel
theorem dX12_load_33 : decode cX12_load 33 = .ok (.iconst (-1), 1) := by decide +kernel
theorem dX12_load_34 : decode cX12_load 34 = .ok (.ireturn, 1) := by decide +kernel
theorem dX12_load_35 : decode cX12_load 35 = .ok (.aload_n 0, 1) := by decide +kernel
theorem dX12_load_36 : decode cX12_load 36 = .ok (.iload_n 1, 1) := by decide +kernel
theorem dX12_load_37 : decode cX12_load 37 = .ok (.iload_n 2, 1) := by decide +kernel
theorem dX12_load_38 : decode cX12_load 38 = .ok (.invokevirtual 385, 3) := by decide +kernel
theorem dX12_load_41 : decode cX12_load 41 = .ok (.aload_n 0, 1) := by decide +kernel
theorem dX12_load_42 : decode cX12_load 42 = .ok (.getfield 17, 3) := by decide +kernel
theorem dX12_load_45 : decode cX12_load 45 = .ok (.bipush 43, 2) := by decide +kernel
theorem dX12_load_47 : decode cX12_load 47 = .ok (.iload_n 1, 1) := by decide +kernel
theorem dX12_load_48 : decode cX12_load 48 = .ok (.iadd, 1) := by decide +kernel
theorem dX12_load_49 : decode cX12_load 49 = .ok (.iaload, 1) := by decide +kernel
theorem dX12_load_50 : decode cX12_load 50 = .ok (.istore 4, 2) := by decide +kernel
theorem dX12_load_52 : decode cX12_load 52 = .ok (.iconst 0, 1) := by decide +kernel
theorem dX12_load_53 : decode cX12_load 53 = .ok (.istore 5, 2) := by decide +kernel
theorem dX12_load_55 : decode cX12_load 55 = .ok (.iconst 0, 1) := by decide +kernel
theorem dX12_load_56 : decode cX12_load 56 = .ok (.istore 6, 2) := by decide +kernel
theorem dX12_load_58 : decode cX12_load 58 = .ok (.iload 6, 2) := by decide +kernel
theorem dX12_load_60 : decode cX12_load 60 = .ok (.iload 4, 2) := by decide +kernel
theorem dX12_load_62 : decode cX12_load 62 = .ok (.if_icmp .ge 47, 3) := by decide +kernel
theorem dX12_load_65 : decode cX12_load 65 = .ok (.aload_n 0, 1) := by decide +kernel
theorem dX12_load_66 : decode cX12_load 66 = .ok (.getfield 40, 3) := by decide +kernel
theorem dX12_load_69 : decode cX12_load 69 = .ok (.iload 6, 2) := by decide +kernel
theorem dX12_load_71 : decode cX12_load 71 = .ok (.iaload, 1) := by decide +kernel
theorem dX12_load_72 : decode cX12_load 72 = .ok (.iload_n 2, 1) := by decide +kernel
theorem dX12_load_73 : decode cX12_load 73 = .ok (.if_icmp .ne 30, 3) := by decide +kernel
theorem dX12_load_76 : decode cX12_load 76 = .ok (.iload 5, 2) := by decide +kernel
theorem dX12_load_78 : decode cX12_load 78 = .ok (.iload_n 3, 1) := by decide +kernel
theorem dX12_load_79 : decode cX12_load 79 = .ok (.iload 4, 2) := by decide +kernel
theorem dX12_load_81 : decode cX12_load 81 = .ok (.idiv, 1) := by decide +kernel
theorem dX12_load_82 : decode cX12_load 82 = .ok (.iload 6, 2) := by decide +kernel
theorem dX12_load_84 : decode cX12_load 84 = .ok (.iload_n 3, 1) := by decide +kernel
theorem dX12_load_85 : decode cX12_load 85 = .ok (.iload 4, 2) := by decide +kernel
theorem dX12_load_87 : decode cX12_load 87 = .ok (.irem, 1) := by decide +kernel
theorem dX12_load_88 : decode cX12_load 88 = .ok (.if_icmp .ge 7, 3) := by decide +kernel
theorem dX12_load_91 : decode cX12_load 91 = .ok (.iconst 1, 1) := by decide +kernel
theorem dX12_load_92 : decode cX12_load 92 = .ok (.goto 4, 3) := by decide +kernel
theorem dX12_load_95 : decode cX12_load 95 = .ok (.iconst 0, 1) := by decide +kernel
theorem dX12_load_96 : decode cX12_load 96 = .ok (.invokestatic 178, 3) := by decide +kernel
theorem dX12_load_99 : decode cX12_load 99 = .ok (.iadd, 1) := by decide +kernel
theorem dX12_load_100 : decode cX12_load 100 = .ok (.iadd, 1) := by decide +kernel
theorem dX12_load_101 : decode cX12_load 101 = .ok (.istore 5, 2) := by decide +kernel
theorem dX12_load_103 : decode cX12_load 103 = .ok (.iinc 6 1, 3) := by decide +kernel
theorem dX12_load_106 : decode cX12_load 106 = .ok (.goto (-48), 3) := by decide +kernel
theorem dX12_load_109 : decode cX12_load 109 = .ok (.iload 5, 2) := by decide +kernel
theorem dX12_load_111 : decode cX12_load 111 = .ok (.ireturn, 1) := by decide +kernel
theorem dX12_toPaper_0 : decode cX12_toPaper 0 = .ok (.aload_n 0, 1) := by decide +kernel
theorem dX12_toPaper_1 : decode cX12_toPaper 1 = .ok (.bipush 14, 2) := by decide +kernel
theorem dX12_toPaper_3 : decode cX12_toPaper 3 = .ok (.invokevirtual 250, 3) := by decide +kernel
theorem dX12_toPaper_6 : decode cX12_toPaper 6 = .ok (.return_, 1) := by decide +kernel
theorem dX12_fromPaper_0 : decode cX12_fromPaper 0 = .ok (.aload_n 0, 1) := by decide +kernel
theorem dX12_fromPaper_1 : decode cX12_fromPaper 1 = .ok (.bipush 14, 2) := by decide +kernel
theorem dX12_fromPaper_3 : decode cX12_fromPaper 3 = .ok (.invokevirtual 390, 3) := by decide +kernel
theorem dX12_fromPaper_6 : decode cX12_fromPaper 6 = .ok (.iload_n 1, 1) := by decide +kernel
theorem dX12_fromPaper_7 : decode cX12_fromPaper 7 = .ok (.ireturn, 1) := by decide +kernel
theorem dX12_canGo_0 : decode cX12_canGo 0 = .ok (.aload_n 0, 1) := by decide +kernel
theorem dX12_canGo_1 : decode cX12_canGo 1 = .ok (.getfield 27, 3) := by decide +kernel
theorem dX12_canGo_4 : decode cX12_canGo 4 = .ok (.iconst 0, 1) := by decide +kernel
theorem dX12_canGo_5 : decode cX12_canGo 5 = .ok (.iaload, 1) := by decide +kernel
theorem dX12_canGo_6 : decode cX12_canGo 6 = .ok (.iload_n 1, 1) := by decide +kernel
theorem dX12_canGo_7 : decode cX12_canGo 7 = .ok (.iadd, 1) := by decide +kernel
theorem dX12_canGo_8 : decode cX12_canGo 8 = .ok (.sipush 9999, 3) := by decide +kernel
theorem dX12_canGo_11 : decode cX12_canGo 11 = .ok (.if_icmp .gt 7, 3) := by decide +kernel
theorem dX12_canGo_14 : decode cX12_canGo 14 = .ok (.iconst 1, 1) := by decide +kernel
theorem dX12_canGo_15 : decode cX12_canGo 15 = .ok (.goto 4, 3) := by decide +kernel
theorem dX12_canGo_18 : decode cX12_canGo 18 = .ok (.iconst 0, 1) := by decide +kernel
theorem dX12_canGo_19 : decode cX12_canGo 19 = .ok (.ireturn, 1) := by decide +kernel
theorem dX12_goes_0 : decode cX12_goes 0 = .ok (.iconst 0, 1) := by decide +kernel
theorem dX12_goes_1 : decode cX12_goes 1 = .ok (.istore_n 2, 1) := by decide +kernel
theorem dX12_goes_2 : decode cX12_goes 2 = .ok (.iload_n 2, 1) := by decide +kernel
theorem dX12_goes_3 : decode cX12_goes 3 = .ok (.iload_n 1, 1) := by decide +kernel
theorem dX12_goes_4 : decode cX12_goes 4 = .ok (.if_icmp .ge 13, 3) := by decide +kernel
theorem dX12_goes_7 : decode cX12_goes 7 = .ok (.aload_n 0, 1) := by decide +kernel
theorem dX12_goes_8 : decode cX12_goes 8 = .ok (.invokevirtual 369, 3) := by decide +kernel
theorem dX12_goes_11 : decode cX12_goes 11 = .ok (.iinc 2 1, 3) := by decide +kernel
theorem dX12_goes_14 : decode cX12_goes 14 = .ok (.goto (-12), 3) := by decide +kernel
theorem dX12_goes_17 : decode cX12_goes 17 = .ok (.return_, 1) := by decide +kernel
theorem dX12_ahead_0 : decode cX12_ahead 0 = .ok (.aload_n 0, 1) := by decide +kernel
theorem dX12_ahead_1 : decode cX12_ahead 1 = .ok (.iconst 0, 1) := by decide +kernel
theorem dX12_ahead_2 : decode cX12_ahead 2 = .ok (.putfield 46, 3) := by decide +kernel
theorem dX12_ahead_5 : decode cX12_ahead 5 = .ok (.aload_n 0, 1) := by decide +kernel
theorem dX12_ahead_6 : decode cX12_ahead 6 = .ok (.iload_n 1, 1) := by decide +kernel
theorem dX12_ahead_7 : decode cX12_ahead 7 = .ok (.invokevirtual 259, 3) := by decide +kernel
theorem dX12_ahead_10 : decode cX12_ahead 10 = .ok (.ifCond .eq 23, 3) := by decide +kernel
theorem dX12_ahead_13 : decode cX12_ahead 13 = .ok (.iload_n 2, 1) := by decide +kernel
theorem dX12_ahead_14 : decode cX12_ahead 14 = .ok (.i2l, 1) := by decide +kernel
theorem dX12_ahead_15 : decode cX12_ahead 15 = .ok (.lconst 0, 1) := by decide +kernel
theorem dX12_ahead_16 : decode cX12_ahead 16 = .ok (.ldc2_w 367, 3) := by decide +kernel
theorem dX12_ahead_19 : decode cX12_ahead 19 = .ok (.invokestatic 56, 3) := by decide +kernel
theorem dX12_ahead_22 : decode cX12_ahead 22 = .ok (.ifCond .eq 11, 3) := by decide +kernel
theorem dX12_ahead_25 : decode cX12_ahead 25 = .ok (.aload_n 0, 1) := by decide +kernel
theorem dX12_ahead_26 : decode cX12_ahead 26 = .ok (.iload_n 2, 1) := by decide +kernel
theorem dX12_ahead_27 : decode cX12_ahead 27 = .ok (.invokevirtual 393, 3) := by decide +kernel
theorem dX12_ahead_30 : decode cX12_ahead 30 = .ok (.ifCond .ne 5, 3) := by decide +kernel
theorem dX12_ahead_33 : decode cX12_ahead 33 = .ok (.iconst (-1), 1) := by decide +kernel
theorem dX12_ahead_34 : decode cX12_ahead 34 = .ok (.ireturn, 1) := by decide +kernel
theorem dX12_ahead_35 : decode cX12_ahead 35 = .ok (.aload_n 0, 1) := by decide +kernel
theorem dX12_ahead_36 : decode cX12_ahead 36 = .ok (.invokevirtual 396, 3) := by decide +kernel
theorem dX12_ahead_39 : decode cX12_ahead 39 = .ok (.aload_n 0, 1) := by decide +kernel
theorem dX12_ahead_40 : decode cX12_ahead 40 = .ok (.iload_n 2, 1) := by decide +kernel
theorem dX12_ahead_41 : decode cX12_ahead 41 = .ok (.invokevirtual 399, 3) := by decide +kernel
theorem dX12_ahead_44 : decode cX12_ahead 44 = .ok (.aload_n 0, 1) := by decide +kernel
theorem dX12_ahead_45 : decode cX12_ahead 45 = .ok (.aload_n 0, 1) := by decide +kernel
theorem dX12_ahead_46 : decode cX12_ahead 46 = .ok (.iload_n 1, 1) := by decide +kernel
theorem dX12_ahead_47 : decode cX12_ahead 47 = .ok (.iconst 2, 1) := by decide +kernel
theorem dX12_ahead_48 : decode cX12_ahead 48 = .ok (.invokevirtual 338, 3) := by decide +kernel
theorem dX12_ahead_51 : decode cX12_ahead 51 = .ok (.invokevirtual 402, 3) := by decide +kernel
theorem dX12_ahead_54 : decode cX12_ahead 54 = .ok (.ireturn, 1) := by decide +kernel
theorem dX12_failsIn_0 : decode cX12_failsIn 0 = .ok (.aload_n 0, 1) := by decide +kernel
theorem dX12_failsIn_1 : decode cX12_failsIn 1 = .ok (.invokevirtual 396, 3) := by decide +kernel
theorem dX12_failsIn_4 : decode cX12_failsIn 4 = .ok (.aload_n 0, 1) := by decide +kernel
theorem dX12_failsIn_5 : decode cX12_failsIn 5 = .ok (.iload_n 2, 1) := by decide +kernel
theorem dX12_failsIn_6 : decode cX12_failsIn 6 = .ok (.iconst 0, 1) := by decide +kernel
theorem dX12_failsIn_7 : decode cX12_failsIn 7 = .ok (.invokevirtual 311, 3) := by decide +kernel
theorem dX12_failsIn_10 : decode cX12_failsIn 10 = .ok (.istore_n 3, 1) := by decide +kernel
theorem dX12_failsIn_11 : decode cX12_failsIn 11 = .ok (.iconst 0, 1) := by decide +kernel
theorem dX12_failsIn_12 : decode cX12_failsIn 12 = .ok (.istore_n 3, 1) := by decide +kernel
theorem dX12_failsIn_13 : decode cX12_failsIn 13 = .ok (.aload_n 0, 1) := by decide +kernel
theorem dX12_failsIn_14 : decode cX12_failsIn 14 = .ok (.aload_n 0, 1) := by decide +kernel
theorem dX12_failsIn_15 : decode cX12_failsIn 15 = .ok (.iload_n 1, 1) := by decide +kernel
theorem dX12_failsIn_16 : decode cX12_failsIn 16 = .ok (.iload_n 2, 1) := by decide +kernel
theorem dX12_failsIn_17 : decode cX12_failsIn 17 = .ok (.invokevirtual 382, 3) := by decide +kernel
theorem dX12_failsIn_20 : decode cX12_failsIn 20 = .ok (.putfield 405, 3) := by decide +kernel
theorem dX12_failsIn_23 : decode cX12_failsIn 23 = .ok (.aload_n 0, 1) := by decide +kernel
theorem dX12_failsIn_24 : decode cX12_failsIn 24 = .ok (.getfield 405, 3) := by decide +kernel
theorem dX12_failsIn_27 : decode cX12_failsIn 27 = .ok (.iconst (-1), 1) := by decide +kernel
theorem dX12_failsIn_28 : decode cX12_failsIn 28 = .ok (.if_icmp .ne 55, 3) := by decide +kernel
theorem dX12_failsIn_31 : decode cX12_failsIn 31 = .ok (.iload_n 3, 1) := by decide +kernel
theorem dX12_failsIn_32 : decode cX12_failsIn 32 = .ok (.sipush 500, 3) := by decide +kernel
theorem dX12_failsIn_35 : decode cX12_failsIn 35 = .ok (.if_icmp .ge 48, 3) := by decide +kernel
theorem dX12_failsIn_38 : decode cX12_failsIn 38 = .ok (.aload_n 0, 1) := by decide +kernel
theorem dX12_failsIn_39 : decode cX12_failsIn 39 = .ok (.iconst 1, 1) := by decide +kernel
theorem dX12_failsIn_40 : decode cX12_failsIn 40 = .ok (.invokevirtual 393, 3) := by decide +kernel
theorem dX12_failsIn_43 : decode cX12_failsIn 43 = .ok (.ifCond .eq 40, 3) := by decide +kernel
theorem dX12_failsIn_46 : decode cX12_failsIn 46 = .ok (.aload_n 0, 1) := by decide +kernel
theorem dX12_failsIn_47 : decode cX12_failsIn 47 = .ok (.invokevirtual 369, 3) := by decide +kernel
theorem dX12_failsIn_50 : decode cX12_failsIn 50 = .ok (.iinc 3 1, 3) := by decide +kernel
theorem dX12_failsIn_53 : decode cX12_failsIn 53 = .ok (.aload_n 0, 1) := by decide +kernel
theorem dX12_failsIn_54 : decode cX12_failsIn 54 = .ok (.aload_n 0, 1) := by decide +kernel
theorem dX12_failsIn_55 : decode cX12_failsIn 55 = .ok (.iload_n 1, 1) := by decide +kernel
theorem dX12_failsIn_56 : decode cX12_failsIn 56 = .ok (.aload_n 0, 1) := by decide +kernel
theorem dX12_failsIn_57 : decode cX12_failsIn 57 = .ok (.iload_n 1, 1) := by decide +kernel
theorem dX12_failsIn_58 : decode cX12_failsIn 58 = .ok (.iconst 2, 1) := by decide +kernel
theorem dX12_failsIn_59 : decode cX12_failsIn 59 = .ok (.invokevirtual 338, 3) := by decide +kernel
theorem dX12_failsIn_62 : decode cX12_failsIn 62 = .ok (.aload_n 0, 1) := by decide +kernel
theorem dX12_failsIn_63 : decode cX12_failsIn 63 = .ok (.iload_n 2, 1) := by decide +kernel
theorem dX12_failsIn_64 : decode cX12_failsIn 64 = .ok (.invokevirtual 376, 3) := by decide +kernel
theorem dX12_failsIn_67 : decode cX12_failsIn 67 = .ok (.iand, 1) := by decide +kernel
theorem dX12_failsIn_68 : decode cX12_failsIn 68 = .ok (.iconst 1, 1) := by decide +kernel
theorem dX12_failsIn_69 : decode cX12_failsIn 69 = .ok (.iload_n 2, 1) := by decide +kernel
theorem dX12_failsIn_70 : decode cX12_failsIn 70 = .ok (.ishl, 1) := by decide +kernel
theorem dX12_failsIn_71 : decode cX12_failsIn 71 = .ok (.iconst (-1), 1) := by decide +kernel
theorem dX12_failsIn_72 : decode cX12_failsIn 72 = .ok (.ixor, 1) := by decide +kernel
theorem dX12_failsIn_73 : decode cX12_failsIn 73 = .ok (.iand, 1) := by decide +kernel
theorem dX12_failsIn_74 : decode cX12_failsIn 74 = .ok (.invokevirtual 379, 3) := by decide +kernel
theorem dX12_failsIn_77 : decode cX12_failsIn 77 = .ok (.putfield 405, 3) := by decide +kernel
theorem dX12_failsIn_80 : decode cX12_failsIn 80 = .ok (.goto (-57), 3) := by decide +kernel
theorem dX12_failsIn_83 : decode cX12_failsIn 83 = .ok (.aload_n 0, 1) := by decide +kernel
theorem dX12_failsIn_84 : decode cX12_failsIn 84 = .ok (.aload_n 0, 1) := by decide +kernel
theorem dX12_failsIn_85 : decode cX12_failsIn 85 = .ok (.getfield 405, 3) := by decide +kernel
theorem dX12_failsIn_88 : decode cX12_failsIn 88 = .ok (.iconst (-1), 1) := by decide +kernel
theorem dX12_failsIn_89 : decode cX12_failsIn 89 = .ok (.if_icmp .ne 7, 3) := by decide +kernel
theorem dX12_failsIn_92 : decode cX12_failsIn 92 = .ok (.iconst (-1), 1) := by decide +kernel
theorem dX12_failsIn_93 : decode cX12_failsIn 93 = .ok (.goto 4, 3) := by decide +kernel
theorem dX12_failsIn_96 : decode cX12_failsIn 96 = .ok (.iload_n 3, 1) := by decide +kernel
theorem dX12_failsIn_97 : decode cX12_failsIn 97 = .ok (.invokevirtual 402, 3) := by decide +kernel
theorem dX12_failsIn_100 : decode cX12_failsIn 100 = .ok (.ireturn, 1) := by decide +kernel
theorem dX12_fails_0 : decode cX12_fails 0 = .ok (.aload_n 0, 1) := by decide +kernel
theorem dX12_fails_1 : decode cX12_fails 1 = .ok (.iconst 0, 1) := by decide +kernel
theorem dX12_fails_2 : decode cX12_fails 2 = .ok (.putfield 46, 3) := by decide +kernel
theorem dX12_fails_5 : decode cX12_fails 5 = .ok (.aload_n 0, 1) := by decide +kernel
theorem dX12_fails_6 : decode cX12_fails 6 = .ok (.iload_n 1, 1) := by decide +kernel
theorem dX12_fails_7 : decode cX12_fails 7 = .ok (.invokevirtual 259, 3) := by decide +kernel
theorem dX12_fails_10 : decode cX12_fails 10 = .ok (.ifCond .eq 29, 3) := by decide +kernel
theorem dX12_fails_13 : decode cX12_fails 13 = .ok (.aload_n 0, 1) := by decide +kernel
theorem dX12_fails_14 : decode cX12_fails 14 = .ok (.iload_n 2, 1) := by decide +kernel
theorem dX12_fails_15 : decode cX12_fails 15 = .ok (.invokevirtual 262, 3) := by decide +kernel
theorem dX12_fails_18 : decode cX12_fails 18 = .ok (.ifCond .eq 21, 3) := by decide +kernel
theorem dX12_fails_21 : decode cX12_fails 21 = .ok (.aload_n 0, 1) := by decide +kernel
theorem dX12_fails_22 : decode cX12_fails 22 = .ok (.iload_n 2, 1) := by decide +kernel
theorem dX12_fails_23 : decode cX12_fails 23 = .ok (.invokevirtual 305, 3) := by decide +kernel
theorem dX12_fails_26 : decode cX12_fails 26 = .ok (.ifCond .eq 13, 3) := by decide +kernel
theorem dX12_fails_29 : decode cX12_fails 29 = .ok (.iload_n 3, 1) := by decide +kernel
theorem dX12_fails_30 : decode cX12_fails 30 = .ok (.i2l, 1) := by decide +kernel
theorem dX12_fails_31 : decode cX12_fails 31 = .ok (.lconst 0, 1) := by decide +kernel
theorem dX12_fails_32 : decode cX12_fails 32 = .ok (.lconst 1, 1) := by decide +kernel
theorem dX12_fails_33 : decode cX12_fails 33 = .ok (.invokestatic 56, 3) := by decide +kernel
theorem dX12_fails_36 : decode cX12_fails 36 = .ok (.ifCond .ne 5, 3) := by decide +kernel
theorem dX12_fails_39 : decode cX12_fails 39 = .ok (.iconst (-1), 1) := by decide +kernel
theorem dX12_fails_40 : decode cX12_fails 40 = .ok (.ireturn, 1) := by decide +kernel
theorem dX12_fails_41 : decode cX12_fails 41 = .ok (.aload_n 0, 1) := by decide +kernel
theorem dX12_fails_42 : decode cX12_fails 42 = .ok (.iload_n 1, 1) := by decide +kernel
theorem dX12_fails_43 : decode cX12_fails 43 = .ok (.iload_n 2, 1) := by decide +kernel
theorem dX12_fails_44 : decode cX12_fails 44 = .ok (.invokevirtual 408, 3) := by decide +kernel
theorem dX12_fails_47 : decode cX12_fails 47 = .ok (.istore 4, 2) := by decide +kernel
theorem dX12_fails_49 : decode cX12_fails 49 = .ok (.iload_n 3, 1) := by decide +kernel
theorem dX12_fails_50 : decode cX12_fails 50 = .ok (.ifCond .ne 8, 3) := by decide +kernel
theorem dX12_fails_53 : decode cX12_fails 53 = .ok (.iload 4, 2) := by decide +kernel
theorem dX12_fails_55 : decode cX12_fails 55 = .ok (.goto 7, 3) := by decide +kernel
theorem dX12_fails_58 : decode cX12_fails 58 = .ok (.aload_n 0, 1) := by decide +kernel
theorem dX12_fails_59 : decode cX12_fails 59 = .ok (.getfield 405, 3) := by decide +kernel
theorem dX12_fails_62 : decode cX12_fails 62 = .ok (.ireturn, 1) := by decide +kernel
theorem dX12_worst_0 : decode cX12_worst 0 = .ok (.aload_n 0, 1) := by decide +kernel
theorem dX12_worst_1 : decode cX12_worst 1 = .ok (.iconst 0, 1) := by decide +kernel
theorem dX12_worst_2 : decode cX12_worst 2 = .ok (.putfield 46, 3) := by decide +kernel
theorem dX12_worst_5 : decode cX12_worst 5 = .ok (.aload_n 0, 1) := by decide +kernel
theorem dX12_worst_6 : decode cX12_worst 6 = .ok (.iload_n 1, 1) := by decide +kernel
theorem dX12_worst_7 : decode cX12_worst 7 = .ok (.invokevirtual 259, 3) := by decide +kernel
theorem dX12_worst_10 : decode cX12_worst 10 = .ok (.ifCond .eq 13, 3) := by decide +kernel
theorem dX12_worst_13 : decode cX12_worst 13 = .ok (.iload_n 2, 1) := by decide +kernel
theorem dX12_worst_14 : decode cX12_worst 14 = .ok (.i2l, 1) := by decide +kernel
theorem dX12_worst_15 : decode cX12_worst 15 = .ok (.lconst 0, 1) := by decide +kernel
theorem dX12_worst_16 : decode cX12_worst 16 = .ok (.lconst 1, 1) := by decide +kernel
theorem dX12_worst_17 : decode cX12_worst 17 = .ok (.invokestatic 56, 3) := by decide +kernel
theorem dX12_worst_20 : decode cX12_worst 20 = .ok (.ifCond .ne 5, 3) := by decide +kernel
theorem dX12_worst_23 : decode cX12_worst 23 = .ok (.iconst (-1), 1) := by decide +kernel
theorem dX12_worst_24 : decode cX12_worst 24 = .ok (.ireturn, 1) := by decide +kernel
theorem dX12_worst_25 : decode cX12_worst 25 = .ok (.iconst (-1), 1) := by decide +kernel
theorem dX12_worst_26 : decode cX12_worst 26 = .ok (.istore_n 3, 1) := by decide +kernel
theorem dX12_worst_27 : decode cX12_worst 27 = .ok (.iconst (-1), 1) := by decide +kernel
theorem dX12_worst_28 : decode cX12_worst 28 = .ok (.istore 4, 2) := by decide +kernel
theorem dX12_worst_30 : decode cX12_worst 30 = .ok (.iconst 0, 1) := by decide +kernel
theorem dX12_worst_31 : decode cX12_worst 31 = .ok (.istore 5, 2) := by decide +kernel
theorem dX12_worst_33 : decode cX12_worst 33 = .ok (.iload 5, 2) := by decide +kernel
theorem dX12_worst_35 : decode cX12_worst 35 = .ok (.aload_n 0, 1) := by decide +kernel
theorem dX12_worst_36 : decode cX12_worst 36 = .ok (.invokevirtual 256, 3) := by decide +kernel
theorem dX12_worst_39 : decode cX12_worst 39 = .ok (.if_icmp .ge 71, 3) := by decide +kernel
theorem dX12_worst_42 : decode cX12_worst 42 = .ok (.aload_n 0, 1) := by decide +kernel
theorem dX12_worst_43 : decode cX12_worst 43 = .ok (.getfield 27, 3) := by decide +kernel
theorem dX12_worst_46 : decode cX12_worst 46 = .ok (.bipush 40, 2) := by decide +kernel
theorem dX12_worst_48 : decode cX12_worst 48 = .ok (.iload_n 1, 1) := by decide +kernel
theorem dX12_worst_49 : decode cX12_worst 49 = .ok (.iload 5, 2) := by decide +kernel
theorem dX12_worst_51 : decode cX12_worst 51 = .ok (.invokestatic 190, 3) := by decide +kernel
theorem dX12_worst_54 : decode cX12_worst 54 = .ok (.iadd, 1) := by decide +kernel
theorem dX12_worst_55 : decode cX12_worst 55 = .ok (.iaload, 1) := by decide +kernel
theorem dX12_worst_56 : decode cX12_worst 56 = .ok (.ifCond .ne 6, 3) := by decide +kernel
theorem dX12_worst_59 : decode cX12_worst 59 = .ok (.goto 45, 3) := by decide +kernel
theorem dX12_worst_62 : decode cX12_worst 62 = .ok (.aload_n 0, 1) := by decide +kernel
theorem dX12_worst_63 : decode cX12_worst 63 = .ok (.iload_n 1, 1) := by decide +kernel
theorem dX12_worst_64 : decode cX12_worst 64 = .ok (.iload 5, 2) := by decide +kernel
theorem dX12_worst_66 : decode cX12_worst 66 = .ok (.invokevirtual 408, 3) := by decide +kernel
theorem dX12_worst_69 : decode cX12_worst 69 = .ok (.istore 6, 2) := by decide +kernel
theorem dX12_worst_71 : decode cX12_worst 71 = .ok (.iload 6, 2) := by decide +kernel
theorem dX12_worst_73 : decode cX12_worst 73 = .ok (.iconst (-1), 1) := by decide +kernel
theorem dX12_worst_74 : decode cX12_worst 74 = .ok (.if_icmp .ne 14, 3) := by decide +kernel
theorem dX12_worst_77 : decode cX12_worst 77 = .ok (.iload_n 2, 1) := by decide +kernel
theorem dX12_worst_78 : decode cX12_worst 78 = .ok (.ifCond .ne 7, 3) := by decide +kernel
theorem dX12_worst_81 : decode cX12_worst 81 = .ok (.iconst (-1), 1) := by decide +kernel
theorem dX12_worst_82 : decode cX12_worst 82 = .ok (.goto 5, 3) := by decide +kernel
theorem dX12_worst_85 : decode cX12_worst 85 = .ok (.iload 5, 2) := by decide +kernel
theorem dX12_worst_87 : decode cX12_worst 87 = .ok (.ireturn, 1) := by decide +kernel
theorem dX12_worst_88 : decode cX12_worst 88 = .ok (.iload 6, 2) := by decide +kernel
theorem dX12_worst_90 : decode cX12_worst 90 = .ok (.iload_n 3, 1) := by decide +kernel
theorem dX12_worst_91 : decode cX12_worst 91 = .ok (.if_icmp .gt 6, 3) := by decide +kernel
theorem dX12_worst_94 : decode cX12_worst 94 = .ok (.goto 10, 3) := by decide +kernel
theorem dX12_worst_97 : decode cX12_worst 97 = .ok (.iload 6, 2) := by decide +kernel
theorem dX12_worst_99 : decode cX12_worst 99 = .ok (.istore_n 3, 1) := by decide +kernel
theorem dX12_worst_100 : decode cX12_worst 100 = .ok (.iload 5, 2) := by decide +kernel
theorem dX12_worst_102 : decode cX12_worst 102 = .ok (.istore 4, 2) := by decide +kernel
theorem dX12_worst_104 : decode cX12_worst 104 = .ok (.iinc 5 1, 3) := by decide +kernel
theorem dX12_worst_107 : decode cX12_worst 107 = .ok (.goto (-74), 3) := by decide +kernel
theorem dX12_worst_110 : decode cX12_worst 110 = .ok (.iload_n 2, 1) := by decide +kernel
theorem dX12_worst_111 : decode cX12_worst 111 = .ok (.ifCond .ne 7, 3) := by decide +kernel
theorem dX12_worst_114 : decode cX12_worst 114 = .ok (.iload_n 3, 1) := by decide +kernel
theorem dX12_worst_115 : decode cX12_worst 115 = .ok (.goto 5, 3) := by decide +kernel
theorem dX12_worst_118 : decode cX12_worst 118 = .ok (.iload 4, 2) := by decide +kernel
theorem dX12_worst_120 : decode cX12_worst 120 = .ok (.ireturn, 1) := by decide +kernel
theorem dX12_settles_0 : decode cX12_settles 0 = .ok (.aload_n 0, 1) := by decide +kernel
theorem dX12_settles_1 : decode cX12_settles 1 = .ok (.iconst 0, 1) := by decide +kernel
theorem dX12_settles_2 : decode cX12_settles 2 = .ok (.putfield 46, 3) := by decide +kernel
theorem dX12_settles_5 : decode cX12_settles 5 = .ok (.aload_n 0, 1) := by decide +kernel
theorem dX12_settles_6 : decode cX12_settles 6 = .ok (.getfield 224, 3) := by decide +kernel
theorem dX12_settles_9 : decode cX12_settles 9 = .ok (.ifCond .eq 13, 3) := by decide +kernel
theorem dX12_settles_12 : decode cX12_settles 12 = .ok (.aload_n 0, 1) := by decide +kernel
theorem dX12_settles_13 : decode cX12_settles 13 = .ok (.sipush 600, 3) := by decide +kernel
theorem dX12_settles_16 : decode cX12_settles 16 = .ok (.invokevirtual 393, 3) := by decide +kernel
theorem dX12_settles_19 : decode cX12_settles 19 = .ok (.ifCond .ne 5, 3) := by decide +kernel
theorem dX12_settles_22 : decode cX12_settles 22 = .ok (.iconst (-1), 1) := by decide +kernel
theorem dX12_settles_23 : decode cX12_settles 23 = .ok (.ireturn, 1) := by decide +kernel
theorem dX12_settles_24 : decode cX12_settles 24 = .ok (.aload_n 0, 1) := by decide +kernel
theorem dX12_settles_25 : decode cX12_settles 25 = .ok (.invokevirtual 396, 3) := by decide +kernel
theorem dX12_settles_28 : decode cX12_settles 28 = .ok (.iconst 0, 1) := by decide +kernel
theorem dX12_settles_29 : decode cX12_settles 29 = .ok (.istore_n 1, 1) := by decide +kernel
theorem dX12_settles_30 : decode cX12_settles 30 = .ok (.iconst 0, 1) := by decide +kernel
theorem dX12_settles_31 : decode cX12_settles 31 = .ok (.istore_n 2, 1) := by decide +kernel
theorem dX12_settles_32 : decode cX12_settles 32 = .ok (.iload_n 2, 1) := by decide +kernel
theorem dX12_settles_33 : decode cX12_settles 33 = .ok (.iload_n 1, 1) := by decide +kernel
theorem dX12_settles_34 : decode cX12_settles 34 = .ok (.bipush 100, 2) := by decide +kernel
theorem dX12_settles_36 : decode cX12_settles 36 = .ok (.iadd, 1) := by decide +kernel
theorem dX12_settles_37 : decode cX12_settles 37 = .ok (.if_icmp .ge 41, 3) := by decide +kernel
theorem dX12_settles_40 : decode cX12_settles 40 = .ok (.aload_n 0, 1) := by decide +kernel
theorem dX12_settles_41 : decode cX12_settles 41 = .ok (.getfield 280, 3) := by decide +kernel
theorem dX12_settles_44 : decode cX12_settles 44 = .ok (.istore_n 3, 1) := by decide +kernel
theorem dX12_settles_45 : decode cX12_settles 45 = .ok (.aload_n 0, 1) := by decide +kernel
theorem dX12_settles_46 : decode cX12_settles 46 = .ok (.invokevirtual 369, 3) := by decide +kernel
theorem dX12_settles_49 : decode cX12_settles 49 = .ok (.iinc 2 1, 3) := by decide +kernel
theorem dX12_settles_52 : decode cX12_settles 52 = .ok (.aload_n 0, 1) := by decide +kernel
theorem dX12_settles_53 : decode cX12_settles 53 = .ok (.getfield 280, 3) := by decide +kernel
theorem dX12_settles_56 : decode cX12_settles 56 = .ok (.iload_n 3, 1) := by decide +kernel
theorem dX12_settles_57 : decode cX12_settles 57 = .ok (.if_icmp .le 5, 3) := by decide +kernel
theorem dX12_settles_60 : decode cX12_settles 60 = .ok (.iload_n 2, 1) := by decide +kernel
theorem dX12_settles_61 : decode cX12_settles 61 = .ok (.istore_n 1, 1) := by decide +kernel
theorem dX12_settles_62 : decode cX12_settles 62 = .ok (.iload_n 1, 1) := by decide +kernel
theorem dX12_settles_63 : decode cX12_settles 63 = .ok (.sipush 500, 3) := by decide +kernel
theorem dX12_settles_66 : decode cX12_settles 66 = .ok (.if_icmp .le 9, 3) := by decide +kernel
theorem dX12_settles_69 : decode cX12_settles 69 = .ok (.aload_n 0, 1) := by decide +kernel
theorem dX12_settles_70 : decode cX12_settles 70 = .ok (.iconst (-1), 1) := by decide +kernel
theorem dX12_settles_71 : decode cX12_settles 71 = .ok (.invokevirtual 402, 3) := by decide +kernel
theorem dX12_settles_74 : decode cX12_settles 74 = .ok (.ireturn, 1) := by decide +kernel
theorem dX12_settles_75 : decode cX12_settles 75 = .ok (.goto (-43), 3) := by decide +kernel
theorem dX12_settles_78 : decode cX12_settles 78 = .ok (.aload_n 0, 1) := by decide +kernel
theorem dX12_settles_79 : decode cX12_settles 79 = .ok (.iload_n 1, 1) := by decide +kernel
theorem dX12_settles_80 : decode cX12_settles 80 = .ok (.invokevirtual 402, 3) := by decide +kernel
theorem dX12_settles_83 : decode cX12_settles 83 = .ok (.ireturn, 1) := by decide +kernel
theorem dX12_least_0 : decode cX12_least 0 = .ok (.aload_n 0, 1) := by decide +kernel
theorem dX12_least_1 : decode cX12_least 1 = .ok (.iconst 0, 1) := by decide +kernel
theorem dX12_least_2 : decode cX12_least 2 = .ok (.putfield 46, 3) := by decide +kernel
theorem dX12_least_5 : decode cX12_least 5 = .ok (.aload_n 0, 1) := by decide +kernel
theorem dX12_least_6 : decode cX12_least 6 = .ok (.iload_n 1, 1) := by decide +kernel
theorem dX12_least_7 : decode cX12_least 7 = .ok (.iload_n 2, 1) := by decide +kernel
theorem dX12_least_8 : decode cX12_least 8 = .ok (.invokevirtual 287, 3) := by decide +kernel
theorem dX12_least_11 : decode cX12_least 11 = .ok (.ifCond .eq 13, 3) := by decide +kernel
theorem dX12_least_14 : decode cX12_least 14 = .ok (.aload_n 0, 1) := by decide +kernel
theorem dX12_least_15 : decode cX12_least 15 = .ok (.sipush 300, 3) := by decide +kernel
theorem dX12_least_18 : decode cX12_least 18 = .ok (.invokevirtual 393, 3) := by decide +kernel
theorem dX12_least_21 : decode cX12_least 21 = .ok (.ifCond .ne 5, 3) := by decide +kernel
theorem dX12_least_24 : decode cX12_least 24 = .ok (.iconst (-1), 1) := by decide +kernel
theorem dX12_least_25 : decode cX12_least 25 = .ok (.ireturn, 1) := by decide +kernel
theorem dX12_least_26 : decode cX12_least 26 = .ok (.aload_n 0, 1) := by decide +kernel
theorem dX12_least_27 : decode cX12_least 27 = .ok (.invokevirtual 396, 3) := by decide +kernel
theorem dX12_least_30 : decode cX12_least 30 = .ok (.iconst 1, 1) := by decide +kernel
theorem dX12_least_31 : decode cX12_least 31 = .ok (.istore_n 3, 1) := by decide +kernel
theorem dX12_least_32 : decode cX12_least 32 = .ok (.iload_n 3, 1) := by decide +kernel
theorem dX12_least_33 : decode cX12_least 33 = .ok (.sipush 255, 3) := by decide +kernel
theorem dX12_least_36 : decode cX12_least 36 = .ok (.if_icmp .ge 51, 3) := by decide +kernel
theorem dX12_least_39 : decode cX12_least 39 = .ok (.aload_n 0, 1) := by decide +kernel
theorem dX12_least_40 : decode cX12_least 40 = .ok (.bipush 14, 2) := by decide +kernel
theorem dX12_least_42 : decode cX12_least 42 = .ok (.invokevirtual 390, 3) := by decide +kernel
theorem dX12_least_45 : decode cX12_least 45 = .ok (.aload_n 0, 1) := by decide +kernel
theorem dX12_least_46 : decode cX12_least 46 = .ok (.getfield 27, 3) := by decide +kernel
theorem dX12_least_49 : decode cX12_least 49 = .ok (.bipush 10, 2) := by decide +kernel
theorem dX12_least_51 : decode cX12_least 51 = .ok (.iload_n 1, 1) := by decide +kernel
theorem dX12_least_52 : decode cX12_least 52 = .ok (.iload_n 2, 1) := by decide +kernel
theorem dX12_least_53 : decode cX12_least 53 = .ok (.invokestatic 190, 3) := by decide +kernel
theorem dX12_least_56 : decode cX12_least 56 = .ok (.iadd, 1) := by decide +kernel
theorem dX12_least_57 : decode cX12_least 57 = .ok (.iload_n 3, 1) := by decide +kernel
theorem dX12_least_58 : decode cX12_least 58 = .ok (.iastore, 1) := by decide +kernel
theorem dX12_least_59 : decode cX12_least 59 = .ok (.aload_n 0, 1) := by decide +kernel
theorem dX12_least_60 : decode cX12_least 60 = .ok (.sipush 300, 3) := by decide +kernel
theorem dX12_least_63 : decode cX12_least 63 = .ok (.invokevirtual 399, 3) := by decide +kernel
theorem dX12_least_66 : decode cX12_least 66 = .ok (.aload_n 0, 1) := by decide +kernel
theorem dX12_least_67 : decode cX12_least 67 = .ok (.iload_n 1, 1) := by decide +kernel
theorem dX12_least_68 : decode cX12_least 68 = .ok (.iload_n 2, 1) := by decide +kernel
theorem dX12_least_69 : decode cX12_least 69 = .ok (.invokevirtual 299, 3) := by decide +kernel
theorem dX12_least_72 : decode cX12_least 72 = .ok (.ifCond .eq 9, 3) := by decide +kernel
theorem dX12_least_75 : decode cX12_least 75 = .ok (.aload_n 0, 1) := by decide +kernel
theorem dX12_least_76 : decode cX12_least 76 = .ok (.iload_n 3, 1) := by decide +kernel
theorem dX12_least_77 : decode cX12_least 77 = .ok (.invokevirtual 402, 3) := by decide +kernel
theorem dX12_least_80 : decode cX12_least 80 = .ok (.ireturn, 1) := by decide +kernel
theorem dX12_least_81 : decode cX12_least 81 = .ok (.iinc 3 1, 3) := by decide +kernel
theorem dX12_least_84 : decode cX12_least 84 = .ok (.goto (-52), 3) := by decide +kernel
theorem dX12_least_87 : decode cX12_least 87 = .ok (.aload_n 0, 1) := by decide +kernel
theorem dX12_least_88 : decode cX12_least 88 = .ok (.iconst (-1), 1) := by decide +kernel
theorem dX12_least_89 : decode cX12_least 89 = .ok (.invokevirtual 402, 3) := by decide +kernel
theorem dX12_least_92 : decode cX12_least 92 = .ok (.ireturn, 1) := by decide +kernel
theorem dX12_flaps_0 : decode cX12_flaps 0 = .ok (.aload_n 0, 1) := by decide +kernel
theorem dX12_flaps_1 : decode cX12_flaps 1 = .ok (.iconst 0, 1) := by decide +kernel
theorem dX12_flaps_2 : decode cX12_flaps 2 = .ok (.putfield 46, 3) := by decide +kernel
theorem dX12_flaps_5 : decode cX12_flaps 5 = .ok (.aload_n 0, 1) := by decide +kernel
theorem dX12_flaps_6 : decode cX12_flaps 6 = .ok (.iload_n 1, 1) := by decide +kernel
theorem dX12_flaps_7 : decode cX12_flaps 7 = .ok (.invokevirtual 259, 3) := by decide +kernel
theorem dX12_flaps_10 : decode cX12_flaps 10 = .ok (.ifCond .eq 23, 3) := by decide +kernel
theorem dX12_flaps_13 : decode cX12_flaps 13 = .ok (.iload_n 2, 1) := by decide +kernel
theorem dX12_flaps_14 : decode cX12_flaps 14 = .ok (.i2l, 1) := by decide +kernel
theorem dX12_flaps_15 : decode cX12_flaps 15 = .ok (.lconst 1, 1) := by decide +kernel
theorem dX12_flaps_16 : decode cX12_flaps 16 = .ok (.ldc2_w 367, 3) := by decide +kernel
theorem dX12_flaps_19 : decode cX12_flaps 19 = .ok (.invokestatic 56, 3) := by decide +kernel
theorem dX12_flaps_22 : decode cX12_flaps 22 = .ok (.ifCond .eq 11, 3) := by decide +kernel
theorem dX12_flaps_25 : decode cX12_flaps 25 = .ok (.aload_n 0, 1) := by decide +kernel
theorem dX12_flaps_26 : decode cX12_flaps 26 = .ok (.iload_n 2, 1) := by decide +kernel
theorem dX12_flaps_27 : decode cX12_flaps 27 = .ok (.invokevirtual 393, 3) := by decide +kernel
theorem dX12_flaps_30 : decode cX12_flaps 30 = .ok (.ifCond .ne 5, 3) := by decide +kernel
theorem dX12_flaps_33 : decode cX12_flaps 33 = .ok (.iconst (-1), 1) := by decide +kernel
theorem dX12_flaps_34 : decode cX12_flaps 34 = .ok (.ireturn, 1) := by decide +kernel
theorem dX12_flaps_35 : decode cX12_flaps 35 = .ok (.aload_n 0, 1) := by decide +kernel
theorem dX12_flaps_36 : decode cX12_flaps 36 = .ok (.invokevirtual 396, 3) := by decide +kernel
theorem dX12_flaps_39 : decode cX12_flaps 39 = .ok (.aload_n 0, 1) := by decide +kernel
theorem dX12_flaps_40 : decode cX12_flaps 40 = .ok (.getfield 27, 3) := by decide +kernel
theorem dX12_flaps_43 : decode cX12_flaps 43 = .ok (.sipush 140, 3) := by decide +kernel
theorem dX12_flaps_46 : decode cX12_flaps 46 = .ok (.iload_n 1, 1) := by decide +kernel
theorem dX12_flaps_47 : decode cX12_flaps 47 = .ok (.iadd, 1) := by decide +kernel
theorem dX12_flaps_48 : decode cX12_flaps 48 = .ok (.iaload, 1) := by decide +kernel
theorem dX12_flaps_49 : decode cX12_flaps 49 = .ok (.istore_n 3, 1) := by decide +kernel
theorem dX12_flaps_50 : decode cX12_flaps 50 = .ok (.aload_n 0, 1) := by decide +kernel
theorem dX12_flaps_51 : decode cX12_flaps 51 = .ok (.iload_n 2, 1) := by decide +kernel
theorem dX12_flaps_52 : decode cX12_flaps 52 = .ok (.invokevirtual 399, 3) := by decide +kernel
theorem dX12_flaps_55 : decode cX12_flaps 55 = .ok (.aload_n 0, 1) := by decide +kernel
theorem dX12_flaps_56 : decode cX12_flaps 56 = .ok (.aload_n 0, 1) := by decide +kernel
theorem dX12_flaps_57 : decode cX12_flaps 57 = .ok (.getfield 27, 3) := by decide +kernel
theorem dX12_flaps_60 : decode cX12_flaps 60 = .ok (.sipush 140, 3) := by decide +kernel
theorem dX12_flaps_63 : decode cX12_flaps 63 = .ok (.iload_n 1, 1) := by decide +kernel
theorem dX12_flaps_64 : decode cX12_flaps 64 = .ok (.iadd, 1) := by decide +kernel
theorem dX12_flaps_65 : decode cX12_flaps 65 = .ok (.iaload, 1) := by decide +kernel
theorem dX12_flaps_66 : decode cX12_flaps 66 = .ok (.iload_n 3, 1) := by decide +kernel
theorem dX12_flaps_67 : decode cX12_flaps 67 = .ok (.isub, 1) := by decide +kernel
theorem dX12_flaps_68 : decode cX12_flaps 68 = .ok (.invokevirtual 402, 3) := by decide +kernel
theorem dX12_flaps_71 : decode cX12_flaps 71 = .ok (.ireturn, 1) := by decide +kernel
theorem dX12_needs_0 : decode cX12_needs 0 = .ok (.aload_n 0, 1) := by decide +kernel
theorem dX12_needs_1 : decode cX12_needs 1 = .ok (.iconst 0, 1) := by decide +kernel
theorem dX12_needs_2 : decode cX12_needs 2 = .ok (.putfield 46, 3) := by decide +kernel
theorem dX12_needs_5 : decode cX12_needs 5 = .ok (.aload_n 0, 1) := by decide +kernel
theorem dX12_needs_6 : decode cX12_needs 6 = .ok (.iload_n 1, 1) := by decide +kernel
theorem dX12_needs_7 : decode cX12_needs 7 = .ok (.invokevirtual 259, 3) := by decide +kernel
theorem dX12_needs_10 : decode cX12_needs 10 = .ok (.ifCond .eq 21, 3) := by decide +kernel
theorem dX12_needs_13 : decode cX12_needs 13 = .ok (.aload_n 0, 1) := by decide +kernel
theorem dX12_needs_14 : decode cX12_needs 14 = .ok (.iload_n 2, 1) := by decide +kernel
theorem dX12_needs_15 : decode cX12_needs 15 = .ok (.invokevirtual 262, 3) := by decide +kernel
theorem dX12_needs_18 : decode cX12_needs 18 = .ok (.ifCond .eq 13, 3) := by decide +kernel
theorem dX12_needs_21 : decode cX12_needs 21 = .ok (.aload_n 0, 1) := by decide +kernel
theorem dX12_needs_22 : decode cX12_needs 22 = .ok (.sipush 300, 3) := by decide +kernel
theorem dX12_needs_25 : decode cX12_needs 25 = .ok (.invokevirtual 393, 3) := by decide +kernel
theorem dX12_needs_28 : decode cX12_needs 28 = .ok (.ifCond .ne 5, 3) := by decide +kernel
theorem dX12_needs_31 : decode cX12_needs 31 = .ok (.iconst (-1), 1) := by decide +kernel
theorem dX12_needs_32 : decode cX12_needs 32 = .ok (.ireturn, 1) := by decide +kernel
theorem dX12_needs_33 : decode cX12_needs 33 = .ok (.aload_n 0, 1) := by decide +kernel
theorem dX12_needs_34 : decode cX12_needs 34 = .ok (.invokevirtual 396, 3) := by decide +kernel
theorem dX12_needs_37 : decode cX12_needs 37 = .ok (.aload_n 0, 1) := by decide +kernel
theorem dX12_needs_38 : decode cX12_needs 38 = .ok (.sipush 300, 3) := by decide +kernel
theorem dX12_needs_41 : decode cX12_needs 41 = .ok (.invokevirtual 399, 3) := by decide +kernel
theorem dX12_needs_44 : decode cX12_needs 44 = .ok (.aload_n 0, 1) := by decide +kernel
theorem dX12_needs_45 : decode cX12_needs 45 = .ok (.iload_n 1, 1) := by decide +kernel
theorem dX12_needs_46 : decode cX12_needs 46 = .ok (.iload_n 2, 1) := by decide +kernel
theorem dX12_needs_47 : decode cX12_needs 47 = .ok (.invokevirtual 382, 3) := by decide +kernel
theorem dX12_needs_50 : decode cX12_needs 50 = .ok (.istore_n 3, 1) := by decide +kernel
theorem dX12_needs_51 : decode cX12_needs 51 = .ok (.iconst 0, 1) := by decide +kernel
theorem dX12_needs_52 : decode cX12_needs 52 = .ok (.istore 4, 2) := by decide +kernel
theorem dX12_needs_54 : decode cX12_needs 54 = .ok (.iconst 0, 1) := by decide +kernel
theorem dX12_needs_55 : decode cX12_needs 55 = .ok (.istore 5, 2) := by decide +kernel
theorem dX12_needs_57 : decode cX12_needs 57 = .ok (.iload 5, 2) := by decide +kernel
theorem dX12_needs_59 : decode cX12_needs 59 = .ok (.aload_n 0, 1) := by decide +kernel
theorem dX12_needs_60 : decode cX12_needs 60 = .ok (.getfield 17, 3) := by decide +kernel
theorem dX12_needs_63 : decode cX12_needs 63 = .ok (.iconst 1, 1) := by decide +kernel
theorem dX12_needs_64 : decode cX12_needs 64 = .ok (.iaload, 1) := by decide +kernel
theorem dX12_needs_65 : decode cX12_needs 65 = .ok (.if_icmp .ge 61, 3) := by decide +kernel
theorem dX12_needs_68 : decode cX12_needs 68 = .ok (.aload_n 0, 1) := by decide +kernel
theorem dX12_needs_69 : decode cX12_needs 69 = .ok (.bipush 14, 2) := by decide +kernel
theorem dX12_needs_71 : decode cX12_needs 71 = .ok (.invokevirtual 390, 3) := by decide +kernel
theorem dX12_needs_74 : decode cX12_needs 74 = .ok (.aload_n 0, 1) := by decide +kernel
theorem dX12_needs_75 : decode cX12_needs 75 = .ok (.getfield 27, 3) := by decide +kernel
theorem dX12_needs_78 : decode cX12_needs 78 = .ok (.iconst 2, 1) := by decide +kernel
theorem dX12_needs_79 : decode cX12_needs 79 = .ok (.dup2, 1) := by decide +kernel
theorem dX12_needs_80 : decode cX12_needs 80 = .ok (.iaload, 1) := by decide +kernel
theorem dX12_needs_81 : decode cX12_needs 81 = .ok (.iconst 1, 1) := by decide +kernel
theorem dX12_needs_82 : decode cX12_needs 82 = .ok (.iload 5, 2) := by decide +kernel
theorem dX12_needs_84 : decode cX12_needs 84 = .ok (.ishl, 1) := by decide +kernel
theorem dX12_needs_85 : decode cX12_needs 85 = .ok (.ior, 1) := by decide +kernel
theorem dX12_needs_86 : decode cX12_needs 86 = .ok (.iastore, 1) := by decide +kernel
theorem dX12_needs_87 : decode cX12_needs 87 = .ok (.aload_n 0, 1) := by decide +kernel
theorem dX12_needs_88 : decode cX12_needs 88 = .ok (.sipush 300, 3) := by decide +kernel
theorem dX12_needs_91 : decode cX12_needs 91 = .ok (.invokevirtual 399, 3) := by decide +kernel
theorem dX12_needs_94 : decode cX12_needs 94 = .ok (.iload 4, 2) := by decide +kernel
theorem dX12_needs_96 : decode cX12_needs 96 = .ok (.aload_n 0, 1) := by decide +kernel
theorem dX12_needs_97 : decode cX12_needs 97 = .ok (.iload_n 1, 1) := by decide +kernel
theorem dX12_needs_98 : decode cX12_needs 98 = .ok (.iload_n 2, 1) := by decide +kernel
theorem dX12_needs_99 : decode cX12_needs 99 = .ok (.invokevirtual 382, 3) := by decide +kernel
theorem dX12_needs_102 : decode cX12_needs 102 = .ok (.iload_n 3, 1) := by decide +kernel
theorem dX12_needs_103 : decode cX12_needs 103 = .ok (.if_icmp .eq 7, 3) := by decide +kernel
theorem dX12_needs_106 : decode cX12_needs 106 = .ok (.iconst 1, 1) := by decide +kernel
theorem dX12_needs_107 : decode cX12_needs 107 = .ok (.goto 4, 3) := by decide +kernel
theorem dX12_needs_110 : decode cX12_needs 110 = .ok (.iconst 0, 1) := by decide +kernel
theorem dX12_needs_111 : decode cX12_needs 111 = .ok (.invokestatic 178, 3) := by decide +kernel
theorem dX12_needs_114 : decode cX12_needs 114 = .ok (.iload 5, 2) := by decide +kernel
theorem dX12_needs_116 : decode cX12_needs 116 = .ok (.ishl, 1) := by decide +kernel
theorem dX12_needs_117 : decode cX12_needs 117 = .ok (.ior, 1) := by decide +kernel
theorem dX12_needs_118 : decode cX12_needs 118 = .ok (.istore 4, 2) := by decide +kernel
theorem dX12_needs_120 : decode cX12_needs 120 = .ok (.iinc 5 1, 3) := by decide +kernel
theorem dX12_needs_123 : decode cX12_needs 123 = .ok (.goto (-66), 3) := by decide +kernel
theorem dX12_needs_126 : decode cX12_needs 126 = .ok (.aload_n 0, 1) := by decide +kernel
theorem dX12_needs_127 : decode cX12_needs 127 = .ok (.iload 4, 2) := by decide +kernel
theorem dX12_needs_129 : decode cX12_needs 129 = .ok (.invokevirtual 402, 3) := by decide +kernel
theorem dX12_needs_132 : decode cX12_needs 132 = .ok (.ireturn, 1) := by decide +kernel
theorem dX12_letters_0 : decode cX12_letters 0 = .ok (.aload_n 0, 1) := by decide +kernel
theorem dX12_letters_1 : decode cX12_letters 1 = .ok (.iconst 0, 1) := by decide +kernel
theorem dX12_letters_2 : decode cX12_letters 2 = .ok (.putfield 46, 3) := by decide +kernel
theorem dX12_letters_5 : decode cX12_letters 5 = .ok (.aload_n 0, 1) := by decide +kernel
theorem dX12_letters_6 : decode cX12_letters 6 = .ok (.getfield 224, 3) := by decide +kernel
theorem dX12_letters_9 : decode cX12_letters 9 = .ok (.ifCond .eq 23, 3) := by decide +kernel
theorem dX12_letters_12 : decode cX12_letters 12 = .ok (.iload_n 1, 1) := by decide +kernel
theorem dX12_letters_13 : decode cX12_letters 13 = .ok (.i2l, 1) := by decide +kernel
theorem dX12_letters_14 : decode cX12_letters 14 = .ok (.lconst 1, 1) := by decide +kernel
theorem dX12_letters_15 : decode cX12_letters 15 = .ok (.ldc2_w 367, 3) := by decide +kernel
theorem dX12_letters_18 : decode cX12_letters 18 = .ok (.invokestatic 56, 3) := by decide +kernel
theorem dX12_letters_21 : decode cX12_letters 21 = .ok (.ifCond .eq 11, 3) := by decide +kernel
theorem dX12_letters_24 : decode cX12_letters 24 = .ok (.aload_n 0, 1) := by decide +kernel
theorem dX12_letters_25 : decode cX12_letters 25 = .ok (.iload_n 1, 1) := by decide +kernel
theorem dX12_letters_26 : decode cX12_letters 26 = .ok (.invokevirtual 393, 3) := by decide +kernel
theorem dX12_letters_29 : decode cX12_letters 29 = .ok (.ifCond .ne 5, 3) := by decide +kernel
theorem dX12_letters_32 : decode cX12_letters 32 = .ok (.iconst (-1), 1) := by decide +kernel
theorem dX12_letters_33 : decode cX12_letters 33 = .ok (.ireturn, 1) := by decide +kernel
theorem dX12_letters_34 : decode cX12_letters 34 = .ok (.aload_n 0, 1) := by decide +kernel
theorem dX12_letters_35 : decode cX12_letters 35 = .ok (.invokevirtual 396, 3) := by decide +kernel
theorem dX12_letters_38 : decode cX12_letters 38 = .ok (.aload_n 0, 1) := by decide +kernel
theorem dX12_letters_39 : decode cX12_letters 39 = .ok (.getfield 27, 3) := by decide +kernel
theorem dX12_letters_42 : decode cX12_letters 42 = .ok (.iconst 5, 1) := by decide +kernel
theorem dX12_letters_43 : decode cX12_letters 43 = .ok (.iaload, 1) := by decide +kernel
theorem dX12_letters_44 : decode cX12_letters 44 = .ok (.istore_n 2, 1) := by decide +kernel
theorem dX12_letters_45 : decode cX12_letters 45 = .ok (.aload_n 0, 1) := by decide +kernel
theorem dX12_letters_46 : decode cX12_letters 46 = .ok (.iload_n 1, 1) := by decide +kernel
theorem dX12_letters_47 : decode cX12_letters 47 = .ok (.invokevirtual 399, 3) := by decide +kernel
theorem dX12_letters_50 : decode cX12_letters 50 = .ok (.aload_n 0, 1) := by decide +kernel
theorem dX12_letters_51 : decode cX12_letters 51 = .ok (.aload_n 0, 1) := by decide +kernel
theorem dX12_letters_52 : decode cX12_letters 52 = .ok (.getfield 27, 3) := by decide +kernel
theorem dX12_letters_55 : decode cX12_letters 55 = .ok (.iconst 5, 1) := by decide +kernel
theorem dX12_letters_56 : decode cX12_letters 56 = .ok (.iaload, 1) := by decide +kernel
theorem dX12_letters_57 : decode cX12_letters 57 = .ok (.iload_n 2, 1) := by decide +kernel
theorem dX12_letters_58 : decode cX12_letters 58 = .ok (.isub, 1) := by decide +kernel
theorem dX12_letters_59 : decode cX12_letters 59 = .ok (.invokevirtual 402, 3) := by decide +kernel
theorem dX12_letters_62 : decode cX12_letters 62 = .ok (.ireturn, 1) := by decide +kernel
theorem dX12_stands_0 : decode cX12_stands 0 = .ok (.aload_n 0, 1) := by decide +kernel
theorem dX12_stands_1 : decode cX12_stands 1 = .ok (.iconst 0, 1) := by decide +kernel
theorem dX12_stands_2 : decode cX12_stands 2 = .ok (.putfield 46, 3) := by decide +kernel
theorem dX12_stands_5 : decode cX12_stands 5 = .ok (.aload_n 0, 1) := by decide +kernel
theorem dX12_stands_6 : decode cX12_stands 6 = .ok (.iload_n 1, 1) := by decide +kernel
theorem dX12_stands_7 : decode cX12_stands 7 = .ok (.iload_n 2, 1) := by decide +kernel
theorem dX12_stands_8 : decode cX12_stands 8 = .ok (.invokevirtual 287, 3) := by decide +kernel
theorem dX12_stands_11 : decode cX12_stands 11 = .ok (.ifCond .eq 23, 3) := by decide +kernel
theorem dX12_stands_14 : decode cX12_stands 14 = .ok (.iload_n 3, 1) := by decide +kernel
theorem dX12_stands_15 : decode cX12_stands 15 = .ok (.i2l, 1) := by decide +kernel
theorem dX12_stands_16 : decode cX12_stands 16 = .ok (.lconst 1, 1) := by decide +kernel
theorem dX12_stands_17 : decode cX12_stands 17 = .ok (.ldc2_w 367, 3) := by decide +kernel
theorem dX12_stands_20 : decode cX12_stands 20 = .ok (.invokestatic 56, 3) := by decide +kernel
theorem dX12_stands_23 : decode cX12_stands 23 = .ok (.ifCond .eq 11, 3) := by decide +kernel
theorem dX12_stands_26 : decode cX12_stands 26 = .ok (.aload_n 0, 1) := by decide +kernel
theorem dX12_stands_27 : decode cX12_stands 27 = .ok (.iload_n 3, 1) := by decide +kernel
theorem dX12_stands_28 : decode cX12_stands 28 = .ok (.invokevirtual 393, 3) := by decide +kernel
theorem dX12_stands_31 : decode cX12_stands 31 = .ok (.ifCond .ne 5, 3) := by decide +kernel
theorem dX12_stands_34 : decode cX12_stands 34 = .ok (.iconst (-1), 1) := by decide +kernel
theorem dX12_stands_35 : decode cX12_stands 35 = .ok (.ireturn, 1) := by decide +kernel
theorem dX12_stands_36 : decode cX12_stands 36 = .ok (.aload_n 0, 1) := by decide +kernel
theorem dX12_stands_37 : decode cX12_stands 37 = .ok (.invokevirtual 396, 3) := by decide +kernel
theorem dX12_stands_40 : decode cX12_stands 40 = .ok (.iconst 0, 1) := by decide +kernel
theorem dX12_stands_41 : decode cX12_stands 41 = .ok (.istore 4, 2) := by decide +kernel
theorem dX12_stands_43 : decode cX12_stands 43 = .ok (.iconst 0, 1) := by decide +kernel
theorem dX12_stands_44 : decode cX12_stands 44 = .ok (.istore 5, 2) := by decide +kernel
theorem dX12_stands_46 : decode cX12_stands 46 = .ok (.iload 5, 2) := by decide +kernel
theorem dX12_stands_48 : decode cX12_stands 48 = .ok (.iload_n 3, 1) := by decide +kernel
theorem dX12_stands_49 : decode cX12_stands 49 = .ok (.if_icmp .ge 27, 3) := by decide +kernel
theorem dX12_stands_52 : decode cX12_stands 52 = .ok (.aload_n 0, 1) := by decide +kernel
theorem dX12_stands_53 : decode cX12_stands 53 = .ok (.invokevirtual 369, 3) := by decide +kernel
theorem dX12_stands_56 : decode cX12_stands 56 = .ok (.iload 4, 2) := by decide +kernel
theorem dX12_stands_58 : decode cX12_stands 58 = .ok (.aload_n 0, 1) := by decide +kernel
theorem dX12_stands_59 : decode cX12_stands 59 = .ok (.iload_n 1, 1) := by decide +kernel
theorem dX12_stands_60 : decode cX12_stands 60 = .ok (.iload_n 2, 1) := by decide +kernel
theorem dX12_stands_61 : decode cX12_stands 61 = .ok (.invokevirtual 299, 3) := by decide +kernel
theorem dX12_stands_64 : decode cX12_stands 64 = .ok (.invokestatic 178, 3) := by decide +kernel
theorem dX12_stands_67 : decode cX12_stands 67 = .ok (.iadd, 1) := by decide +kernel
theorem dX12_stands_68 : decode cX12_stands 68 = .ok (.istore 4, 2) := by decide +kernel
theorem dX12_stands_70 : decode cX12_stands 70 = .ok (.iinc 5 1, 3) := by decide +kernel
theorem dX12_stands_73 : decode cX12_stands 73 = .ok (.goto (-27), 3) := by decide +kernel
theorem dX12_stands_76 : decode cX12_stands 76 = .ok (.aload_n 0, 1) := by decide +kernel
theorem dX12_stands_77 : decode cX12_stands 77 = .ok (.iload 4, 2) := by decide +kernel
theorem dX12_stands_79 : decode cX12_stands 79 = .ok (.invokevirtual 402, 3) := by decide +kernel
theorem dX12_stands_82 : decode cX12_stands 82 = .ok (.ireturn, 1) := by decide +kernel
theorem dX12_returns_0 : decode cX12_returns 0 = .ok (.aload_n 0, 1) := by decide +kernel
theorem dX12_returns_1 : decode cX12_returns 1 = .ok (.iconst 0, 1) := by decide +kernel
theorem dX12_returns_2 : decode cX12_returns 2 = .ok (.putfield 46, 3) := by decide +kernel
theorem dX12_returns_5 : decode cX12_returns 5 = .ok (.aload_n 0, 1) := by decide +kernel
theorem dX12_returns_6 : decode cX12_returns 6 = .ok (.iload_n 1, 1) := by decide +kernel
theorem dX12_returns_7 : decode cX12_returns 7 = .ok (.iload_n 2, 1) := by decide +kernel
theorem dX12_returns_8 : decode cX12_returns 8 = .ok (.invokevirtual 287, 3) := by decide +kernel
theorem dX12_returns_11 : decode cX12_returns 11 = .ok (.ifCond .eq 11, 3) := by decide +kernel
theorem dX12_returns_14 : decode cX12_returns 14 = .ok (.aload_n 0, 1) := by decide +kernel
theorem dX12_returns_15 : decode cX12_returns 15 = .ok (.iload_n 2, 1) := by decide +kernel
theorem dX12_returns_16 : decode cX12_returns 16 = .ok (.invokevirtual 305, 3) := by decide +kernel
theorem dX12_returns_19 : decode cX12_returns 19 = .ok (.ifCond .eq 5, 3) := by decide +kernel
theorem dX12_returns_22 : decode cX12_returns 22 = .ok (.iconst (-1), 1) := by decide +kernel
theorem dX12_returns_23 : decode cX12_returns 23 = .ok (.ireturn, 1) := by decide +kernel
theorem dX12_returns_24 : decode cX12_returns 24 = .ok (.aload_n 0, 1) := by decide +kernel
theorem dX12_returns_25 : decode cX12_returns 25 = .ok (.invokevirtual 396, 3) := by decide +kernel
theorem dX12_returns_28 : decode cX12_returns 28 = .ok (.aload_n 0, 1) := by decide +kernel
theorem dX12_returns_29 : decode cX12_returns 29 = .ok (.iload_n 2, 1) := by decide +kernel
theorem dX12_returns_30 : decode cX12_returns 30 = .ok (.invokevirtual 308, 3) := by decide +kernel
theorem dX12_returns_33 : decode cX12_returns 33 = .ok (.iconst 0, 1) := by decide +kernel
theorem dX12_returns_34 : decode cX12_returns 34 = .ok (.istore_n 3, 1) := by decide +kernel
theorem dX12_returns_35 : decode cX12_returns 35 = .ok (.aload_n 0, 1) := by decide +kernel
theorem dX12_returns_36 : decode cX12_returns 36 = .ok (.iload_n 1, 1) := by decide +kernel
theorem dX12_returns_37 : decode cX12_returns 37 = .ok (.iload_n 2, 1) := by decide +kernel
theorem dX12_returns_38 : decode cX12_returns 38 = .ok (.invokevirtual 299, 3) := by decide +kernel
theorem dX12_returns_41 : decode cX12_returns 41 = .ok (.ifCond .ne 28, 3) := by decide +kernel
theorem dX12_returns_44 : decode cX12_returns 44 = .ok (.iload_n 3, 1) := by decide +kernel
theorem dX12_returns_45 : decode cX12_returns 45 = .ok (.sipush 500, 3) := by decide +kernel
theorem dX12_returns_48 : decode cX12_returns 48 = .ok (.if_icmp .ge 21, 3) := by decide +kernel
theorem dX12_returns_51 : decode cX12_returns 51 = .ok (.aload_n 0, 1) := by decide +kernel
theorem dX12_returns_52 : decode cX12_returns 52 = .ok (.iconst 1, 1) := by decide +kernel
theorem dX12_returns_53 : decode cX12_returns 53 = .ok (.invokevirtual 393, 3) := by decide +kernel
theorem dX12_returns_56 : decode cX12_returns 56 = .ok (.ifCond .eq 13, 3) := by decide +kernel
theorem dX12_returns_59 : decode cX12_returns 59 = .ok (.aload_n 0, 1) := by decide +kernel
theorem dX12_returns_60 : decode cX12_returns 60 = .ok (.invokevirtual 369, 3) := by decide +kernel
theorem dX12_returns_63 : decode cX12_returns 63 = .ok (.iinc 3 1, 3) := by decide +kernel
theorem dX12_returns_66 : decode cX12_returns 66 = .ok (.goto (-31), 3) := by decide +kernel
theorem dX12_returns_69 : decode cX12_returns 69 = .ok (.aload_n 0, 1) := by decide +kernel
theorem dX12_returns_70 : decode cX12_returns 70 = .ok (.aload_n 0, 1) := by decide +kernel
theorem dX12_returns_71 : decode cX12_returns 71 = .ok (.iload_n 1, 1) := by decide +kernel
theorem dX12_returns_72 : decode cX12_returns 72 = .ok (.iload_n 2, 1) := by decide +kernel
theorem dX12_returns_73 : decode cX12_returns 73 = .ok (.invokevirtual 299, 3) := by decide +kernel
theorem dX12_returns_76 : decode cX12_returns 76 = .ok (.ifCond .eq 7, 3) := by decide +kernel
theorem dX12_returns_79 : decode cX12_returns 79 = .ok (.iload_n 3, 1) := by decide +kernel
theorem dX12_returns_80 : decode cX12_returns 80 = .ok (.goto 4, 3) := by decide +kernel
theorem dX12_returns_83 : decode cX12_returns 83 = .ok (.iconst (-1), 1) := by decide +kernel
theorem dX12_returns_84 : decode cX12_returns 84 = .ok (.invokevirtual 402, 3) := by decide +kernel
theorem dX12_returns_87 : decode cX12_returns 87 = .ok (.ireturn, 1) := by decide +kernel
theorem dX12_under_0 : decode cX12_under 0 = .ok (.aload_n 0, 1) := by decide +kernel
theorem dX12_under_1 : decode cX12_under 1 = .ok (.iconst 0, 1) := by decide +kernel
theorem dX12_under_2 : decode cX12_under 2 = .ok (.putfield 46, 3) := by decide +kernel
theorem dX12_under_5 : decode cX12_under 5 = .ok (.aload_n 0, 1) := by decide +kernel
theorem dX12_under_6 : decode cX12_under 6 = .ok (.iload_n 1, 1) := by decide +kernel
theorem dX12_under_7 : decode cX12_under 7 = .ok (.invokevirtual 259, 3) := by decide +kernel
theorem dX12_under_10 : decode cX12_under 10 = .ok (.ifCond .eq 41, 3) := by decide +kernel
theorem dX12_under_13 : decode cX12_under 13 = .ok (.aload_n 0, 1) := by decide +kernel
theorem dX12_under_14 : decode cX12_under 14 = .ok (.iload_n 2, 1) := by decide +kernel
theorem dX12_under_15 : decode cX12_under 15 = .ok (.invokevirtual 262, 3) := by decide +kernel
theorem dX12_under_18 : decode cX12_under 18 = .ok (.ifCond .eq 33, 3) := by decide +kernel
theorem dX12_under_21 : decode cX12_under 21 = .ok (.iload_n 3, 1) := by decide +kernel
theorem dX12_under_22 : decode cX12_under 22 = .ok (.i2l, 1) := by decide +kernel
theorem dX12_under_23 : decode cX12_under 23 = .ok (.lconst 0, 1) := by decide +kernel
theorem dX12_under_24 : decode cX12_under 24 = .ok (.iconst 1, 1) := by decide +kernel
theorem dX12_under_25 : decode cX12_under 25 = .ok (.aload_n 0, 1) := by decide +kernel
theorem dX12_under_26 : decode cX12_under 26 = .ok (.getfield 17, 3) := by decide +kernel
theorem dX12_under_29 : decode cX12_under 29 = .ok (.iconst 1, 1) := by decide +kernel
theorem dX12_under_30 : decode cX12_under 30 = .ok (.iaload, 1) := by decide +kernel
theorem dX12_under_31 : decode cX12_under 31 = .ok (.ishl, 1) := by decide +kernel
theorem dX12_under_32 : decode cX12_under 32 = .ok (.iconst 1, 1) := by decide +kernel
theorem dX12_under_33 : decode cX12_under 33 = .ok (.isub, 1) := by decide +kernel
theorem dX12_under_34 : decode cX12_under 34 = .ok (.i2l, 1) := by decide +kernel
theorem dX12_under_35 : decode cX12_under 35 = .ok (.invokestatic 56, 3) := by decide +kernel
theorem dX12_under_38 : decode cX12_under 38 = .ok (.ifCond .eq 13, 3) := by decide +kernel
theorem dX12_under_41 : decode cX12_under 41 = .ok (.aload_n 0, 1) := by decide +kernel
theorem dX12_under_42 : decode cX12_under 42 = .ok (.sipush 300, 3) := by decide +kernel
theorem dX12_under_45 : decode cX12_under 45 = .ok (.invokevirtual 393, 3) := by decide +kernel
theorem dX12_under_48 : decode cX12_under 48 = .ok (.ifCond .ne 5, 3) := by decide +kernel
theorem dX12_under_51 : decode cX12_under 51 = .ok (.iconst (-1), 1) := by decide +kernel
theorem dX12_under_52 : decode cX12_under 52 = .ok (.ireturn, 1) := by decide +kernel
theorem dX12_under_53 : decode cX12_under 53 = .ok (.aload_n 0, 1) := by decide +kernel
theorem dX12_under_54 : decode cX12_under 54 = .ok (.invokevirtual 396, 3) := by decide +kernel
theorem dX12_under_57 : decode cX12_under 57 = .ok (.aload_n 0, 1) := by decide +kernel
theorem dX12_under_58 : decode cX12_under 58 = .ok (.getfield 27, 3) := by decide +kernel
theorem dX12_under_61 : decode cX12_under 61 = .ok (.iconst 2, 1) := by decide +kernel
theorem dX12_under_62 : decode cX12_under 62 = .ok (.iload_n 3, 1) := by decide +kernel
theorem dX12_under_63 : decode cX12_under 63 = .ok (.iastore, 1) := by decide +kernel
theorem dX12_under_64 : decode cX12_under 64 = .ok (.aload_n 0, 1) := by decide +kernel
theorem dX12_under_65 : decode cX12_under 65 = .ok (.sipush 300, 3) := by decide +kernel
theorem dX12_under_68 : decode cX12_under 68 = .ok (.invokevirtual 399, 3) := by decide +kernel
theorem dX12_under_71 : decode cX12_under 71 = .ok (.aload_n 0, 1) := by decide +kernel
theorem dX12_under_72 : decode cX12_under 72 = .ok (.aload_n 0, 1) := by decide +kernel
theorem dX12_under_73 : decode cX12_under 73 = .ok (.iload_n 1, 1) := by decide +kernel
theorem dX12_under_74 : decode cX12_under 74 = .ok (.iload_n 2, 1) := by decide +kernel
theorem dX12_under_75 : decode cX12_under 75 = .ok (.invokevirtual 382, 3) := by decide +kernel
theorem dX12_under_78 : decode cX12_under 78 = .ok (.invokevirtual 402, 3) := by decide +kernel
theorem dX12_under_81 : decode cX12_under 81 = .ok (.ireturn, 1) := by decide +kernel
theorem dX12_rank_0 : decode cX12_rank 0 = .ok (.aload_n 0, 1) := by decide +kernel
theorem dX12_rank_1 : decode cX12_rank 1 = .ok (.iconst 0, 1) := by decide +kernel
theorem dX12_rank_2 : decode cX12_rank 2 = .ok (.putfield 46, 3) := by decide +kernel
theorem dX12_rank_5 : decode cX12_rank 5 = .ok (.aload_n 0, 1) := by decide +kernel
theorem dX12_rank_6 : decode cX12_rank 6 = .ok (.iload_n 1, 1) := by decide +kernel
theorem dX12_rank_7 : decode cX12_rank 7 = .ok (.invokevirtual 259, 3) := by decide +kernel
theorem dX12_rank_10 : decode cX12_rank 10 = .ok (.ifCond .eq 7, 3) := by decide +kernel
theorem dX12_rank_13 : decode cX12_rank 13 = .ok (.iload_n 2, 1) := by decide +kernel
theorem dX12_rank_14 : decode cX12_rank 14 = .ok (.ifCond .ge 5, 3) := by decide +kernel
theorem dX12_rank_17 : decode cX12_rank 17 = .ok (.iconst (-1), 1) := by decide +kernel
theorem dX12_rank_18 : decode cX12_rank 18 = .ok (.ireturn, 1) := by decide +kernel
theorem dX12_rank_19 : decode cX12_rank 19 = .ok (.aload_n 0, 1) := by decide +kernel
theorem dX12_rank_20 : decode cX12_rank 20 = .ok (.getfield 17, 3) := by decide +kernel
theorem dX12_rank_23 : decode cX12_rank 23 = .ok (.bipush 48, 2) := by decide +kernel
theorem dX12_rank_25 : decode cX12_rank 25 = .ok (.iload_n 1, 1) := by decide +kernel
theorem dX12_rank_26 : decode cX12_rank 26 = .ok (.iadd, 1) := by decide +kernel
theorem dX12_rank_27 : decode cX12_rank 27 = .ok (.iaload, 1) := by decide +kernel
theorem dX12_rank_28 : decode cX12_rank 28 = .ok (.istore_n 3, 1) := by decide +kernel
theorem dX12_rank_29 : decode cX12_rank 29 = .ok (.aload_n 0, 1) := by decide +kernel
theorem dX12_rank_30 : decode cX12_rank 30 = .ok (.iload_n 1, 1) := by decide +kernel
theorem dX12_rank_31 : decode cX12_rank 31 = .ok (.iload_n 3, 1) := by decide +kernel
theorem dX12_rank_32 : decode cX12_rank 32 = .ok (.invokevirtual 379, 3) := by decide +kernel
theorem dX12_rank_35 : decode cX12_rank 35 = .ok (.istore 4, 2) := by decide +kernel
theorem dX12_rank_37 : decode cX12_rank 37 = .ok (.iconst 0, 1) := by decide +kernel
theorem dX12_rank_38 : decode cX12_rank 38 = .ok (.istore 5, 2) := by decide +kernel
theorem dX12_rank_40 : decode cX12_rank 40 = .ok (.iload 5, 2) := by decide +kernel
theorem dX12_rank_42 : decode cX12_rank 42 = .ok (.iload_n 2, 1) := by decide +kernel
theorem dX12_rank_43 : decode cX12_rank 43 = .ok (.if_icmp .ge 32, 3) := by decide +kernel
theorem dX12_rank_46 : decode cX12_rank 46 = .ok (.iload 4, 2) := by decide +kernel
theorem dX12_rank_48 : decode cX12_rank 48 = .ok (.iconst (-1), 1) := by decide +kernel
theorem dX12_rank_49 : decode cX12_rank 49 = .ok (.if_icmp .eq 26, 3) := by decide +kernel
theorem dX12_rank_52 : decode cX12_rank 52 = .ok (.iload_n 3, 1) := by decide +kernel
theorem dX12_rank_53 : decode cX12_rank 53 = .ok (.iconst 1, 1) := by decide +kernel
theorem dX12_rank_54 : decode cX12_rank 54 = .ok (.iload 4, 2) := by decide +kernel
theorem dX12_rank_56 : decode cX12_rank 56 = .ok (.ishl, 1) := by decide +kernel
theorem dX12_rank_57 : decode cX12_rank 57 = .ok (.iconst (-1), 1) := by decide +kernel
theorem dX12_rank_58 : decode cX12_rank 58 = .ok (.ixor, 1) := by decide +kernel
theorem dX12_rank_59 : decode cX12_rank 59 = .ok (.iand, 1) := by decide +kernel
theorem dX12_rank_60 : decode cX12_rank 60 = .ok (.istore_n 3, 1) := by decide +kernel
theorem dX12_rank_61 : decode cX12_rank 61 = .ok (.aload_n 0, 1) := by decide +kernel
theorem dX12_rank_62 : decode cX12_rank 62 = .ok (.iload_n 1, 1) := by decide +kernel
theorem dX12_rank_63 : decode cX12_rank 63 = .ok (.iload_n 3, 1) := by decide +kernel
theorem dX12_rank_64 : decode cX12_rank 64 = .ok (.invokevirtual 379, 3) := by decide +kernel
theorem dX12_rank_67 : decode cX12_rank 67 = .ok (.istore 4, 2) := by decide +kernel
theorem dX12_rank_69 : decode cX12_rank 69 = .ok (.iinc 5 1, 3) := by decide +kernel
theorem dX12_rank_72 : decode cX12_rank 72 = .ok (.goto (-32), 3) := by decide +kernel
theorem dX12_rank_75 : decode cX12_rank 75 = .ok (.iload 4, 2) := by decide +kernel
theorem dX12_rank_77 : decode cX12_rank 77 = .ok (.ireturn, 1) := by decide +kernel
theorem dX12_log_0 : decode cX12_log 0 = .ok (.aload_n 0, 1) := by decide +kernel
theorem dX12_log_1 : decode cX12_log 1 = .ok (.iconst 0, 1) := by decide +kernel
theorem dX12_log_2 : decode cX12_log 2 = .ok (.putfield 46, 3) := by decide +kernel
theorem dX12_log_5 : decode cX12_log 5 = .ok (.iload_n 1, 1) := by decide +kernel
theorem dX12_log_6 : decode cX12_log 6 = .ok (.i2l, 1) := by decide +kernel
theorem dX12_log_7 : decode cX12_log 7 = .ok (.lconst 0, 1) := by decide +kernel
theorem dX12_log_8 : decode cX12_log 8 = .ok (.aload_n 0, 1) := by decide +kernel
theorem dX12_log_9 : decode cX12_log 9 = .ok (.getfield 27, 3) := by decide +kernel
theorem dX12_log_12 : decode cX12_log 12 = .ok (.bipush 7, 2) := by decide +kernel
theorem dX12_log_14 : decode cX12_log 14 = .ok (.iaload, 1) := by decide +kernel
theorem dX12_log_15 : decode cX12_log 15 = .ok (.iconst 1, 1) := by decide +kernel
theorem dX12_log_16 : decode cX12_log 16 = .ok (.isub, 1) := by decide +kernel
theorem dX12_log_17 : decode cX12_log 17 = .ok (.i2l, 1) := by decide +kernel
theorem dX12_log_18 : decode cX12_log 18 = .ok (.invokestatic 56, 3) := by decide +kernel
theorem dX12_log_21 : decode cX12_log 21 = .ok (.ifCond .eq 32, 3) := by decide +kernel
theorem dX12_log_24 : decode cX12_log 24 = .ok (.iload_n 2, 1) := by decide +kernel
theorem dX12_log_25 : decode cX12_log 25 = .ok (.i2l, 1) := by decide +kernel
theorem dX12_log_26 : decode cX12_log 26 = .ok (.lconst 0, 1) := by decide +kernel
theorem dX12_log_27 : decode cX12_log 27 = .ok (.ldc2_w 363, 3) := by decide +kernel
theorem dX12_log_30 : decode cX12_log 30 = .ok (.invokestatic 56, 3) := by decide +kernel
theorem dX12_log_33 : decode cX12_log 33 = .ok (.ifCond .eq 20, 3) := by decide +kernel
theorem dX12_log_36 : decode cX12_log 36 = .ok (.aload_n 0, 1) := by decide +kernel
theorem dX12_log_37 : decode cX12_log 37 = .ok (.getfield 27, 3) := by decide +kernel
theorem dX12_log_40 : decode cX12_log 40 = .ok (.sipush 245, 3) := by decide +kernel
theorem dX12_log_43 : decode cX12_log 43 = .ok (.iconst 4, 1) := by decide +kernel
theorem dX12_log_44 : decode cX12_log 44 = .ok (.iload_n 1, 1) := by decide +kernel
theorem dX12_log_45 : decode cX12_log 45 = .ok (.imul, 1) := by decide +kernel
theorem dX12_log_46 : decode cX12_log 46 = .ok (.iadd, 1) := by decide +kernel
theorem dX12_log_47 : decode cX12_log 47 = .ok (.iload_n 2, 1) := by decide +kernel
theorem dX12_log_48 : decode cX12_log 48 = .ok (.iadd, 1) := by decide +kernel
theorem dX12_log_49 : decode cX12_log 49 = .ok (.iaload, 1) := by decide +kernel
theorem dX12_log_50 : decode cX12_log 50 = .ok (.goto 4, 3) := by decide +kernel
theorem dX12_log_53 : decode cX12_log 53 = .ok (.iconst (-1), 1) := by decide +kernel
theorem dX12_log_54 : decode cX12_log 54 = .ok (.ireturn, 1) := by decide +kernel
theorem dX12_undo_0 : decode cX12_undo 0 = .ok (.aload_n 0, 1) := by decide +kernel
theorem dX12_undo_1 : decode cX12_undo 1 = .ok (.iconst 0, 1) := by decide +kernel
theorem dX12_undo_2 : decode cX12_undo 2 = .ok (.putfield 46, 3) := by decide +kernel
theorem dX12_undo_5 : decode cX12_undo 5 = .ok (.aload_n 0, 1) := by decide +kernel
theorem dX12_undo_6 : decode cX12_undo 6 = .ok (.getfield 224, 3) := by decide +kernel
theorem dX12_undo_9 : decode cX12_undo 9 = .ok (.ifCond .ne 6, 3) := by decide +kernel
theorem dX12_undo_12 : decode cX12_undo 12 = .ok (.bipush (-2), 2) := by decide +kernel
theorem dX12_undo_14 : decode cX12_undo 14 = .ok (.ireturn, 1) := by decide +kernel
theorem dX12_undo_15 : decode cX12_undo 15 = .ok (.aload_n 0, 1) := by decide +kernel
theorem dX12_undo_16 : decode cX12_undo 16 = .ok (.getfield 228, 3) := by decide +kernel
theorem dX12_undo_19 : decode cX12_undo 19 = .ok (.ifCond .ne 6, 3) := by decide +kernel
theorem dX12_undo_22 : decode cX12_undo 22 = .ok (.bipush (-3), 2) := by decide +kernel
theorem dX12_undo_24 : decode cX12_undo 24 = .ok (.ireturn, 1) := by decide +kernel
theorem dX12_undo_25 : decode cX12_undo 25 = .ok (.aload_n 0, 1) := by decide +kernel
theorem dX12_undo_26 : decode cX12_undo 26 = .ok (.dup, 1) := by decide +kernel
theorem dX12_undo_27 : decode cX12_undo 27 = .ok (.getfield 228, 3) := by decide +kernel
theorem dX12_undo_30 : decode cX12_undo 30 = .ok (.iconst 1, 1) := by decide +kernel
theorem dX12_undo_31 : decode cX12_undo 31 = .ok (.isub, 1) := by decide +kernel
theorem dX12_undo_32 : decode cX12_undo 32 = .ok (.putfield 228, 3) := by decide +kernel
theorem dX12_undo_35 : decode cX12_undo 35 = .ok (.aload_n 0, 1) := by decide +kernel
theorem dX12_undo_36 : decode cX12_undo 36 = .ok (.aload_n 0, 1) := by decide +kernel
theorem dX12_undo_37 : decode cX12_undo 37 = .ok (.getfield 228, 3) := by decide +kernel
theorem dX12_undo_40 : decode cX12_undo 40 = .ok (.invokevirtual 390, 3) := by decide +kernel
theorem dX12_undo_43 : decode cX12_undo 43 = .ok (.aload_n 0, 1) := by decide +kernel
theorem dX12_undo_44 : decode cX12_undo 44 = .ok (.getfield 228, 3) := by decide +kernel
theorem dX12_undo_47 : decode cX12_undo 47 = .ok (.ireturn, 1) := by decide +kernel
theorem dX12_keep_0 : decode cX12_keep 0 = .ok (.aload_n 0, 1) := by decide +kernel
theorem dX12_keep_1 : decode cX12_keep 1 = .ok (.iconst 0, 1) := by decide +kernel
theorem dX12_keep_2 : decode cX12_keep 2 = .ok (.putfield 46, 3) := by decide +kernel
theorem dX12_keep_5 : decode cX12_keep 5 = .ok (.iload_n 1, 1) := by decide +kernel
theorem dX12_keep_6 : decode cX12_keep 6 = .ok (.i2l, 1) := by decide +kernel
theorem dX12_keep_7 : decode cX12_keep 7 = .ok (.lconst 0, 1) := by decide +kernel
theorem dX12_keep_8 : decode cX12_keep 8 = .ok (.lconst 1, 1) := by decide +kernel
theorem dX12_keep_9 : decode cX12_keep 9 = .ok (.invokestatic 56, 3) := by decide +kernel
theorem dX12_keep_12 : decode cX12_keep 12 = .ok (.ifCond .eq 10, 3) := by decide +kernel
theorem dX12_keep_15 : decode cX12_keep 15 = .ok (.aload_n 0, 1) := by decide +kernel
theorem dX12_keep_16 : decode cX12_keep 16 = .ok (.getfield 224, 3) := by decide +kernel
theorem dX12_keep_19 : decode cX12_keep 19 = .ok (.ifCond .ne 6, 3) := by decide +kernel
theorem dX12_keep_22 : decode cX12_keep 22 = .ok (.bipush (-2), 2) := by decide +kernel
theorem dX12_keep_24 : decode cX12_keep 24 = .ok (.ireturn, 1) := by decide +kernel
theorem dX12_keep_25 : decode cX12_keep 25 = .ok (.aload_n 0, 1) := by decide +kernel
theorem dX12_keep_26 : decode cX12_keep 26 = .ok (.bipush 12, 2) := by decide +kernel
theorem dX12_keep_28 : decode cX12_keep 28 = .ok (.iload_n 1, 1) := by decide +kernel
theorem dX12_keep_29 : decode cX12_keep 29 = .ok (.iadd, 1) := by decide +kernel
theorem dX12_keep_30 : decode cX12_keep 30 = .ok (.invokevirtual 250, 3) := by decide +kernel
theorem dX12_keep_33 : decode cX12_keep 33 = .ok (.aload_n 0, 1) := by decide +kernel
theorem dX12_keep_34 : decode cX12_keep 34 = .ok (.getfield 33, 3) := by decide +kernel
theorem dX12_keep_37 : decode cX12_keep 37 = .ok (.iload_n 1, 1) := by decide +kernel
theorem dX12_keep_38 : decode cX12_keep 38 = .ok (.iconst 1, 1) := by decide +kernel
theorem dX12_keep_39 : decode cX12_keep 39 = .ok (.bastore, 1) := by decide +kernel
theorem dX12_keep_40 : decode cX12_keep 40 = .ok (.aload_n 0, 1) := by decide +kernel
theorem dX12_keep_41 : decode cX12_keep 41 = .ok (.getfield 27, 3) := by decide +kernel
theorem dX12_keep_44 : decode cX12_keep 44 = .ok (.iconst 0, 1) := by decide +kernel
theorem dX12_keep_45 : decode cX12_keep 45 = .ok (.iaload, 1) := by decide +kernel
theorem dX12_keep_46 : decode cX12_keep 46 = .ok (.ireturn, 1) := by decide +kernel
theorem dX12_back_0 : decode cX12_back 0 = .ok (.aload_n 0, 1) := by decide +kernel
theorem dX12_back_1 : decode cX12_back 1 = .ok (.iconst 0, 1) := by decide +kernel
theorem dX12_back_2 : decode cX12_back 2 = .ok (.putfield 46, 3) := by decide +kernel
theorem dX12_back_5 : decode cX12_back 5 = .ok (.iload_n 1, 1) := by decide +kernel
theorem dX12_back_6 : decode cX12_back 6 = .ok (.i2l, 1) := by decide +kernel
theorem dX12_back_7 : decode cX12_back 7 = .ok (.lconst 0, 1) := by decide +kernel
theorem dX12_back_8 : decode cX12_back 8 = .ok (.lconst 1, 1) := by decide +kernel
theorem dX12_back_9 : decode cX12_back 9 = .ok (.invokestatic 56, 3) := by decide +kernel
theorem dX12_back_12 : decode cX12_back 12 = .ok (.ifCond .eq 10, 3) := by decide +kernel
theorem dX12_back_15 : decode cX12_back 15 = .ok (.aload_n 0, 1) := by decide +kernel
theorem dX12_back_16 : decode cX12_back 16 = .ok (.getfield 224, 3) := by decide +kernel
theorem dX12_back_19 : decode cX12_back 19 = .ok (.ifCond .ne 6, 3) := by decide +kernel
theorem dX12_back_22 : decode cX12_back 22 = .ok (.bipush (-2), 2) := by decide +kernel
theorem dX12_back_24 : decode cX12_back 24 = .ok (.ireturn, 1) := by decide +kernel
theorem dX12_back_25 : decode cX12_back 25 = .ok (.aload_n 0, 1) := by decide +kernel
theorem dX12_back_26 : decode cX12_back 26 = .ok (.getfield 33, 3) := by decide +kernel
theorem dX12_back_29 : decode cX12_back 29 = .ok (.iload_n 1, 1) := by decide +kernel
theorem dX12_back_30 : decode cX12_back 30 = .ok (.baload, 1) := by decide +kernel
theorem dX12_back_31 : decode cX12_back 31 = .ok (.ifCond .ne 6, 3) := by decide +kernel
theorem dX12_back_34 : decode cX12_back 34 = .ok (.bipush (-3), 2) := by decide +kernel
theorem dX12_back_36 : decode cX12_back 36 = .ok (.ireturn, 1) := by decide +kernel
theorem dX12_back_37 : decode cX12_back 37 = .ok (.aload_n 0, 1) := by decide +kernel
theorem dX12_back_38 : decode cX12_back 38 = .ok (.bipush 12, 2) := by decide +kernel
theorem dX12_back_40 : decode cX12_back 40 = .ok (.iload_n 1, 1) := by decide +kernel
theorem dX12_back_41 : decode cX12_back 41 = .ok (.iadd, 1) := by decide +kernel
theorem dX12_back_42 : decode cX12_back 42 = .ok (.invokevirtual 390, 3) := by decide +kernel
theorem dX12_back_45 : decode cX12_back 45 = .ok (.aload_n 0, 1) := by decide +kernel
theorem dX12_back_46 : decode cX12_back 46 = .ok (.iconst 0, 1) := by decide +kernel
theorem dX12_back_47 : decode cX12_back 47 = .ok (.putfield 228, 3) := by decide +kernel
theorem dX12_back_50 : decode cX12_back 50 = .ok (.aload_n 0, 1) := by decide +kernel
theorem dX12_back_51 : decode cX12_back 51 = .ok (.getfield 27, 3) := by decide +kernel
theorem dX12_back_54 : decode cX12_back 54 = .ok (.iconst 0, 1) := by decide +kernel
theorem dX12_back_55 : decode cX12_back 55 = .ok (.iaload, 1) := by decide +kernel
theorem dX12_back_56 : decode cX12_back 56 = .ok (.ireturn, 1) := by decide +kernel
