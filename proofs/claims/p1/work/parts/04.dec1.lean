theorem dX0_init_0 : decode cX0_init 0 = .ok (.aload_n 0, 1) := by decide +kernel
theorem dX0_init_1 : decode cX0_init 1 = .ok (.invokespecial 3, 3) := by decide +kernel
theorem dX0_init_4 : decode cX0_init 4 = .ok (.aload_n 0, 1) := by decide +kernel
theorem dX0_init_5 : decode cX0_init 5 = .ok (.new 9, 3) := by decide +kernel
theorem dX0_init_8 : decode cX0_init 8 = .ok (.dup, 1) := by decide +kernel
theorem dX0_init_9 : decode cX0_init 9 = .ok (.invokespecial 11, 3) := by decide +kernel
theorem dX0_init_12 : decode cX0_init 12 = .ok (.putfield 12, 3) := by decide +kernel
theorem dX0_init_15 : decode cX0_init 15 = .ok (.aload_n 0, 1) := by decide +kernel
theorem dX0_init_16 : decode cX0_init 16 = .ok (.new 18, 3) := by decide +kernel
theorem dX0_init_19 : decode cX0_init 19 = .ok (.dup, 1) := by decide +kernel
theorem dX0_init_20 : decode cX0_init 20 = .ok (.invokespecial 20, 3) := by decide +kernel
theorem dX0_init_23 : decode cX0_init 23 = .ok (.putfield 21, 3) := by decide +kernel
theorem dX0_init_26 : decode cX0_init 26 = .ok (.aload_n 0, 1) := by decide +kernel
theorem dX0_init_27 : decode cX0_init 27 = .ok (.bipush 120, 2) := by decide +kernel
theorem dX0_init_29 : decode cX0_init 29 = .ok (.newarray .int, 2) := by decide +kernel
theorem dX0_init_31 : decode cX0_init 31 = .ok (.putfield 25, 3) := by decide +kernel
theorem dX0_init_34 : decode cX0_init 34 = .ok (.aload_n 0, 1) := by decide +kernel
theorem dX0_init_35 : decode cX0_init 35 = .ok (.bipush 120, 2) := by decide +kernel
theorem dX0_init_37 : decode cX0_init 37 = .ok (.newarray .int, 2) := by decide +kernel
theorem dX0_init_39 : decode cX0_init 39 = .ok (.putfield 29, 3) := by decide +kernel
theorem dX0_init_42 : decode cX0_init 42 = .ok (.aload_n 0, 1) := by decide +kernel
theorem dX0_init_43 : decode cX0_init 43 = .ok (.bipush 120, 2) := by decide +kernel
theorem dX0_init_45 : decode cX0_init 45 = .ok (.newarray .int, 2) := by decide +kernel
theorem dX0_init_47 : decode cX0_init 47 = .ok (.putfield 32, 3) := by decide +kernel
theorem dX0_init_50 : decode cX0_init 50 = .ok (.aload_n 0, 1) := by decide +kernel
theorem dX0_init_51 : decode cX0_init 51 = .ok (.bipush 12, 2) := by decide +kernel
theorem dX0_init_53 : decode cX0_init 53 = .ok (.anewarray 35, 3) := by decide +kernel
theorem dX0_init_56 : decode cX0_init 56 = .ok (.putfield 37, 3) := by decide +kernel
theorem dX0_init_59 : decode cX0_init 59 = .ok (.return_, 1) := by decide +kernel
theorem dX0_goThrough_0 : decode cX0_goThrough 0 = .ok (.aload_n 0, 1) := by decide +kernel
theorem dX0_goThrough_1 : decode cX0_goThrough 1 = .ok (.iload_n 3, 1) := by decide +kernel
theorem dX0_goThrough_2 : decode cX0_goThrough 2 = .ok (.invokevirtual 41, 3) := by decide +kernel
theorem dX0_goThrough_5 : decode cX0_goThrough 5 = .ok (.iconst 0, 1) := by decide +kernel
theorem dX0_goThrough_6 : decode cX0_goThrough 6 = .ok (.istore 4, 2) := by decide +kernel
theorem dX0_goThrough_8 : decode cX0_goThrough 8 = .ok (.iload 4, 2) := by decide +kernel
theorem dX0_goThrough_10 : decode cX0_goThrough 10 = .ok (.ldc 45, 2) := by decide +kernel
theorem dX0_goThrough_12 : decode cX0_goThrough 12 = .ok (.if_icmp .ge 62, 3) := by decide +kernel
theorem dX0_goThrough_15 : decode cX0_goThrough 15 = .ok (.aload_n 0, 1) := by decide +kernel
theorem dX0_goThrough_16 : decode cX0_goThrough 16 = .ok (.invokevirtual 46, 3) := by decide +kernel
theorem dX0_goThrough_19 : decode cX0_goThrough 19 = .ok (.ifCond .eq 55, 3) := by decide +kernel
theorem dX0_goThrough_22 : decode cX0_goThrough 22 = .ok (.aload_n 0, 1) := by decide +kernel
theorem dX0_goThrough_23 : decode cX0_goThrough 23 = .ok (.getfield 12, 3) := by decide +kernel
theorem dX0_goThrough_26 : decode cX0_goThrough 26 = .ok (.getfield 50, 3) := by decide +kernel
theorem dX0_goThrough_29 : decode cX0_goThrough 29 = .ok (.ifCond .le 26, 3) := by decide +kernel
theorem dX0_goThrough_32 : decode cX0_goThrough 32 = .ok (.aload_n 0, 1) := by decide +kernel
theorem dX0_goThrough_33 : decode cX0_goThrough 33 = .ok (.getfield 12, 3) := by decide +kernel
theorem dX0_goThrough_36 : decode cX0_goThrough 36 = .ok (.invokevirtual 54, 3) := by decide +kernel
theorem dX0_goThrough_39 : decode cX0_goThrough 39 = .ok (.istore 5, 2) := by decide +kernel
theorem dX0_goThrough_41 : decode cX0_goThrough 41 = .ok (.iload 5, 2) := by decide +kernel
theorem dX0_goThrough_43 : decode cX0_goThrough 43 = .ok (.ifCond .eq 9, 3) := by decide +kernel
theorem dX0_goThrough_46 : decode cX0_goThrough 46 = .ok (.aload_n 0, 1) := by decide +kernel
theorem dX0_goThrough_47 : decode cX0_goThrough 47 = .ok (.iload 5, 2) := by decide +kernel
theorem dX0_goThrough_49 : decode cX0_goThrough 49 = .ok (.invokevirtual 58, 3) := by decide +kernel
theorem dX0_goThrough_52 : decode cX0_goThrough 52 = .ok (.goto 16, 3) := by decide +kernel
theorem dX0_goThrough_55 : decode cX0_goThrough 55 = .ok (.aload_n 0, 1) := by decide +kernel
theorem dX0_goThrough_56 : decode cX0_goThrough 56 = .ok (.aload_n 1, 1) := by decide +kernel
theorem dX0_goThrough_57 : decode cX0_goThrough 57 = .ok (.aload_n 2, 1) := by decide +kernel
theorem dX0_goThrough_58 : decode cX0_goThrough 58 = .ok (.aload_n 0, 1) := by decide +kernel
theorem dX0_goThrough_59 : decode cX0_goThrough 59 = .ok (.getfield 21, 3) := by decide +kernel
theorem dX0_goThrough_62 : decode cX0_goThrough 62 = .ok (.invokevirtual 62, 3) := by decide +kernel
theorem dX0_goThrough_65 : decode cX0_goThrough 65 = .ok (.invokevirtual 65, 3) := by decide +kernel
theorem dX0_goThrough_68 : decode cX0_goThrough 68 = .ok (.iinc 4 1, 3) := by decide +kernel
theorem dX0_goThrough_71 : decode cX0_goThrough 71 = .ok (.goto (-63), 3) := by decide +kernel
theorem dX0_goThrough_74 : decode cX0_goThrough 74 = .ok (.iconst 0, 1) := by decide +kernel
theorem dX0_goThrough_75 : decode cX0_goThrough 75 = .ok (.istore 4, 2) := by decide +kernel
theorem dX0_goThrough_77 : decode cX0_goThrough 77 = .ok (.iload 4, 2) := by decide +kernel
theorem dX0_goThrough_79 : decode cX0_goThrough 79 = .ok (.aload_n 1, 1) := by decide +kernel
theorem dX0_goThrough_80 : decode cX0_goThrough 80 = .ok (.getfield 69, 3) := by decide +kernel
theorem dX0_goThrough_83 : decode cX0_goThrough 83 = .ok (.if_icmp .ge 53, 3) := by decide +kernel
theorem dX0_goThrough_86 : decode cX0_goThrough 86 = .ok (.aload_n 0, 1) := by decide +kernel
theorem dX0_goThrough_87 : decode cX0_goThrough 87 = .ok (.getfield 74, 3) := by decide +kernel
theorem dX0_goThrough_90 : decode cX0_goThrough 90 = .ok (.ifCond .ne 46, 3) := by decide +kernel
theorem dX0_goThrough_93 : decode cX0_goThrough 93 = .ok (.aload_n 0, 1) := by decide +kernel
theorem dX0_goThrough_94 : decode cX0_goThrough 94 = .ok (.getfield 77, 3) := by decide +kernel
theorem dX0_goThrough_97 : decode cX0_goThrough 97 = .ok (.ifCond .ne 39, 3) := by decide +kernel
theorem dX0_goThrough_100 : decode cX0_goThrough 100 = .ok (.aload_n 0, 1) := by decide +kernel
theorem dX0_goThrough_101 : decode cX0_goThrough 101 = .ok (.getfield 12, 3) := by decide +kernel
theorem dX0_goThrough_104 : decode cX0_goThrough 104 = .ok (.aload_n 0, 1) := by decide +kernel
theorem dX0_goThrough_105 : decode cX0_goThrough 105 = .ok (.getfield 25, 3) := by decide +kernel
theorem dX0_goThrough_108 : decode cX0_goThrough 108 = .ok (.iload 4, 2) := by decide +kernel
theorem dX0_goThrough_110 : decode cX0_goThrough 110 = .ok (.invokestatic 81, 3) := by decide +kernel
theorem dX0_goThrough_113 : decode cX0_goThrough 113 = .ok (.invokevirtual 85, 3) := by decide +kernel
theorem dX0_goThrough_116 : decode cX0_goThrough 116 = .ok (.sipush 200, 3) := by decide +kernel
theorem dX0_goThrough_119 : decode cX0_goThrough 119 = .ok (.if_icmp .le 11, 3) := by decide +kernel
theorem dX0_goThrough_122 : decode cX0_goThrough 122 = .ok (.aload_n 0, 1) := by decide +kernel
theorem dX0_goThrough_123 : decode cX0_goThrough 123 = .ok (.bipush 10, 2) := by decide +kernel
theorem dX0_goThrough_125 : decode cX0_goThrough 125 = .ok (.iload 4, 2) := by decide +kernel
theorem dX0_goThrough_127 : decode cX0_goThrough 127 = .ok (.invokevirtual 89, 3) := by decide +kernel
theorem dX0_goThrough_130 : decode cX0_goThrough 130 = .ok (.iinc 4 1, 3) := by decide +kernel
theorem dX0_goThrough_133 : decode cX0_goThrough 133 = .ok (.goto (-56), 3) := by decide +kernel
theorem dX0_goThrough_136 : decode cX0_goThrough 136 = .ok (.aload_n 0, 1) := by decide +kernel
theorem dX0_goThrough_137 : decode cX0_goThrough 137 = .ok (.getfield 74, 3) := by decide +kernel
theorem dX0_goThrough_140 : decode cX0_goThrough 140 = .ok (.ifCond .ne 17, 3) := by decide +kernel
theorem dX0_goThrough_143 : decode cX0_goThrough 143 = .ok (.aload_n 0, 1) := by decide +kernel
theorem dX0_goThrough_144 : decode cX0_goThrough 144 = .ok (.getfield 93, 3) := by decide +kernel
theorem dX0_goThrough_147 : decode cX0_goThrough 147 = .ok (.sipush 300, 3) := by decide +kernel
theorem dX0_goThrough_150 : decode cX0_goThrough 150 = .ok (.if_icmp .gt 7, 3) := by decide +kernel
theorem dX0_goThrough_153 : decode cX0_goThrough 153 = .ok (.iconst 1, 1) := by decide +kernel
theorem dX0_goThrough_154 : decode cX0_goThrough 154 = .ok (.goto 4, 3) := by decide +kernel
theorem dX0_goThrough_157 : decode cX0_goThrough 157 = .ok (.iconst 0, 1) := by decide +kernel
theorem dX0_goThrough_158 : decode cX0_goThrough 158 = .ok (.ireturn, 1) := by decide +kernel
theorem dX0_begin_0 : decode cX0_begin 0 = .ok (.aload_n 0, 1) := by decide +kernel
theorem dX0_begin_1 : decode cX0_begin 1 = .ok (.getfield 12, 3) := by decide +kernel
theorem dX0_begin_4 : decode cX0_begin 4 = .ok (.invokevirtual 96, 3) := by decide +kernel
theorem dX0_begin_7 : decode cX0_begin 7 = .ok (.aload_n 0, 1) := by decide +kernel
theorem dX0_begin_8 : decode cX0_begin 8 = .ok (.iconst 0, 1) := by decide +kernel
theorem dX0_begin_9 : decode cX0_begin 9 = .ok (.putfield 99, 3) := by decide +kernel
theorem dX0_begin_12 : decode cX0_begin 12 = .ok (.aload_n 0, 1) := by decide +kernel
theorem dX0_begin_13 : decode cX0_begin 13 = .ok (.iload_n 1, 1) := by decide +kernel
theorem dX0_begin_14 : decode cX0_begin 14 = .ok (.putfield 77, 3) := by decide +kernel
theorem dX0_begin_17 : decode cX0_begin 17 = .ok (.aload_n 0, 1) := by decide +kernel
theorem dX0_begin_18 : decode cX0_begin 18 = .ok (.iconst 0, 1) := by decide +kernel
theorem dX0_begin_19 : decode cX0_begin 19 = .ok (.putfield 93, 3) := by decide +kernel
theorem dX0_begin_22 : decode cX0_begin 22 = .ok (.aload_n 0, 1) := by decide +kernel
theorem dX0_begin_23 : decode cX0_begin 23 = .ok (.iconst 0, 1) := by decide +kernel
theorem dX0_begin_24 : decode cX0_begin 24 = .ok (.putfield 74, 3) := by decide +kernel
theorem dX0_begin_27 : decode cX0_begin 27 = .ok (.aload_n 0, 1) := by decide +kernel
theorem dX0_begin_28 : decode cX0_begin 28 = .ok (.iconst (-1), 1) := by decide +kernel
theorem dX0_begin_29 : decode cX0_begin 29 = .ok (.putfield 102, 3) := by decide +kernel
theorem dX0_begin_32 : decode cX0_begin 32 = .ok (.aload_n 0, 1) := by decide +kernel
theorem dX0_begin_33 : decode cX0_begin 33 = .ok (.iconst (-1), 1) := by decide +kernel
theorem dX0_begin_34 : decode cX0_begin 34 = .ok (.putfield 105, 3) := by decide +kernel
theorem dX0_begin_37 : decode cX0_begin 37 = .ok (.aload_n 0, 1) := by decide +kernel
theorem dX0_begin_38 : decode cX0_begin 38 = .ok (.iconst (-1), 1) := by decide +kernel
theorem dX0_begin_39 : decode cX0_begin 39 = .ok (.putfield 108, 3) := by decide +kernel
theorem dX0_begin_42 : decode cX0_begin 42 = .ok (.aload_n 0, 1) := by decide +kernel
theorem dX0_begin_43 : decode cX0_begin 43 = .ok (.getfield 21, 3) := by decide +kernel
theorem dX0_begin_46 : decode cX0_begin 46 = .ok (.iconst 0, 1) := by decide +kernel
theorem dX0_begin_47 : decode cX0_begin 47 = .ok (.putfield 111, 3) := by decide +kernel
theorem dX0_begin_50 : decode cX0_begin 50 = .ok (.aload_n 0, 1) := by decide +kernel
theorem dX0_begin_51 : decode cX0_begin 51 = .ok (.getfield 21, 3) := by decide +kernel
theorem dX0_begin_54 : decode cX0_begin 54 = .ok (.iconst 0, 1) := by decide +kernel
theorem dX0_begin_55 : decode cX0_begin 55 = .ok (.invokevirtual 112, 3) := by decide +kernel
theorem dX0_begin_58 : decode cX0_begin 58 = .ok (.return_, 1) := by decide +kernel
theorem dX0_isGoing_0 : decode cX0_isGoing 0 = .ok (.aload_n 0, 1) := by decide +kernel
theorem dX0_isGoing_1 : decode cX0_isGoing 1 = .ok (.getfield 21, 3) := by decide +kernel
theorem dX0_isGoing_4 : decode cX0_isGoing 4 = .ok (.getfield 111, 3) := by decide +kernel
theorem dX0_isGoing_7 : decode cX0_isGoing 7 = .ok (.ifCond .le 24, 3) := by decide +kernel
theorem dX0_isGoing_10 : decode cX0_isGoing 10 = .ok (.aload_n 0, 1) := by decide +kernel
theorem dX0_isGoing_11 : decode cX0_isGoing 11 = .ok (.getfield 74, 3) := by decide +kernel
theorem dX0_isGoing_14 : decode cX0_isGoing 14 = .ok (.ifCond .ne 17, 3) := by decide +kernel
theorem dX0_isGoing_17 : decode cX0_isGoing 17 = .ok (.aload_n 0, 1) := by decide +kernel
theorem dX0_isGoing_18 : decode cX0_isGoing 18 = .ok (.getfield 93, 3) := by decide +kernel
theorem dX0_isGoing_21 : decode cX0_isGoing 21 = .ok (.sipush 300, 3) := by decide +kernel
theorem dX0_isGoing_24 : decode cX0_isGoing 24 = .ok (.if_icmp .gt 7, 3) := by decide +kernel
theorem dX0_isGoing_27 : decode cX0_isGoing 27 = .ok (.iconst 1, 1) := by decide +kernel
theorem dX0_isGoing_28 : decode cX0_isGoing 28 = .ok (.goto 4, 3) := by decide +kernel
theorem dX0_isGoing_31 : decode cX0_isGoing 31 = .ok (.iconst 0, 1) := by decide +kernel
theorem dX0_isGoing_32 : decode cX0_isGoing 32 = .ok (.ireturn, 1) := by decide +kernel
theorem dX0_spellWhole_0 : decode cX0_spellWhole 0 = .ok (.aload_n 0, 1) := by decide +kernel
theorem dX0_spellWhole_1 : decode cX0_spellWhole 1 = .ok (.getfield 12, 3) := by decide +kernel
theorem dX0_spellWhole_4 : decode cX0_spellWhole 4 = .ok (.aload_n 0, 1) := by decide +kernel
theorem dX0_spellWhole_5 : decode cX0_spellWhole 5 = .ok (.getfield 115, 3) := by decide +kernel
theorem dX0_spellWhole_8 : decode cX0_spellWhole 8 = .ok (.aload_n 1, 1) := by decide +kernel
theorem dX0_spellWhole_9 : decode cX0_spellWhole 9 = .ok (.iconst (-1), 1) := by decide +kernel
theorem dX0_spellWhole_10 : decode cX0_spellWhole 10 = .ok (.invokevirtual 118, 3) := by decide +kernel
theorem dX0_spellWhole_13 : decode cX0_spellWhole 13 = .ok (.return_, 1) := by decide +kernel
theorem dX0_spellNode_0 : decode cX0_spellNode 0 = .ok (.aload_n 0, 1) := by decide +kernel
theorem dX0_spellNode_1 : decode cX0_spellNode 1 = .ok (.getfield 12, 3) := by decide +kernel
theorem dX0_spellNode_4 : decode cX0_spellNode 4 = .ok (.aload_n 0, 1) := by decide +kernel
theorem dX0_spellNode_5 : decode cX0_spellNode 5 = .ok (.getfield 25, 3) := by decide +kernel
theorem dX0_spellNode_8 : decode cX0_spellNode 8 = .ok (.iload_n 1, 1) := by decide +kernel
theorem dX0_spellNode_9 : decode cX0_spellNode 9 = .ok (.invokestatic 81, 3) := by decide +kernel
theorem dX0_spellNode_12 : decode cX0_spellNode 12 = .ok (.aload_n 2, 1) := by decide +kernel
theorem dX0_spellNode_13 : decode cX0_spellNode 13 = .ok (.iconst (-1), 1) := by decide +kernel
theorem dX0_spellNode_14 : decode cX0_spellNode 14 = .ok (.invokevirtual 118, 3) := by decide +kernel
theorem dX0_spellNode_17 : decode cX0_spellNode 17 = .ok (.return_, 1) := by decide +kernel
theorem dX0_sizeApplied_0 : decode cX0_sizeApplied 0 = .ok (.aload_n 0, 1) := by decide +kernel
theorem dX0_sizeApplied_1 : decode cX0_sizeApplied 1 = .ok (.getfield 12, 3) := by decide +kernel
theorem dX0_sizeApplied_4 : decode cX0_sizeApplied 4 = .ok (.invokevirtual 96, 3) := by decide +kernel
theorem dX0_sizeApplied_7 : decode cX0_sizeApplied 7 = .ok (.aload_n 0, 1) := by decide +kernel
theorem dX0_sizeApplied_8 : decode cX0_sizeApplied 8 = .ok (.getfield 12, 3) := by decide +kernel
theorem dX0_sizeApplied_11 : decode cX0_sizeApplied 11 = .ok (.iconst (-1), 1) := by decide +kernel
theorem dX0_sizeApplied_12 : decode cX0_sizeApplied 12 = .ok (.iconst (-1), 1) := by decide +kernel
theorem dX0_sizeApplied_13 : decode cX0_sizeApplied 13 = .ok (.invokevirtual 122, 3) := by decide +kernel
theorem dX0_sizeApplied_16 : decode cX0_sizeApplied 16 = .ok (.istore_n 3, 1) := by decide +kernel
theorem dX0_sizeApplied_17 : decode cX0_sizeApplied 17 = .ok (.aload_n 0, 1) := by decide +kernel
theorem dX0_sizeApplied_18 : decode cX0_sizeApplied 18 = .ok (.getfield 12, 3) := by decide +kernel
theorem dX0_sizeApplied_21 : decode cX0_sizeApplied 21 = .ok (.aload_n 1, 1) := by decide +kernel
theorem dX0_sizeApplied_22 : decode cX0_sizeApplied 22 = .ok (.invokevirtual 126, 3) := by decide +kernel
theorem dX0_sizeApplied_25 : decode cX0_sizeApplied 25 = .ok (.istore 4, 2) := by decide +kernel
theorem dX0_sizeApplied_27 : decode cX0_sizeApplied 27 = .ok (.aload_n 0, 1) := by decide +kernel
theorem dX0_sizeApplied_28 : decode cX0_sizeApplied 28 = .ok (.getfield 12, 3) := by decide +kernel
theorem dX0_sizeApplied_31 : decode cX0_sizeApplied 31 = .ok (.iload 4, 2) := by decide +kernel
theorem dX0_sizeApplied_33 : decode cX0_sizeApplied 33 = .ok (.aload_n 0, 1) := by decide +kernel
theorem dX0_sizeApplied_34 : decode cX0_sizeApplied 34 = .ok (.getfield 12, 3) := by decide +kernel
theorem dX0_sizeApplied_37 : decode cX0_sizeApplied 37 = .ok (.aload_n 0, 1) := by decide +kernel
theorem dX0_sizeApplied_38 : decode cX0_sizeApplied 38 = .ok (.getfield 12, 3) := by decide +kernel
theorem dX0_sizeApplied_41 : decode cX0_sizeApplied 41 = .ok (.aload_n 2, 1) := by decide +kernel
theorem dX0_sizeApplied_42 : decode cX0_sizeApplied 42 = .ok (.invokevirtual 126, 3) := by decide +kernel
theorem dX0_sizeApplied_45 : decode cX0_sizeApplied 45 = .ok (.iload_n 3, 1) := by decide +kernel
theorem dX0_sizeApplied_46 : decode cX0_sizeApplied 46 = .ok (.invokevirtual 122, 3) := by decide +kernel
theorem dX0_sizeApplied_49 : decode cX0_sizeApplied 49 = .ok (.iconst 0, 1) := by decide +kernel
theorem dX0_sizeApplied_50 : decode cX0_sizeApplied 50 = .ok (.invokevirtual 130, 3) := by decide +kernel
theorem dX0_sizeApplied_53 : decode cX0_sizeApplied 53 = .ok (.iconst 0, 1) := by decide +kernel
theorem dX0_sizeApplied_54 : decode cX0_sizeApplied 54 = .ok (.istore 5, 2) := by decide +kernel
theorem dX0_sizeApplied_56 : decode cX0_sizeApplied 56 = .ok (.iload 5, 2) := by decide +kernel
theorem dX0_sizeApplied_58 : decode cX0_sizeApplied 58 = .ok (.ldc 45, 2) := by decide +kernel
theorem dX0_sizeApplied_60 : decode cX0_sizeApplied 60 = .ok (.if_icmp .ge 31, 3) := by decide +kernel
theorem dX0_sizeApplied_63 : decode cX0_sizeApplied 63 = .ok (.aload_n 0, 1) := by decide +kernel
theorem dX0_sizeApplied_64 : decode cX0_sizeApplied 64 = .ok (.getfield 12, 3) := by decide +kernel
theorem dX0_sizeApplied_67 : decode cX0_sizeApplied 67 = .ok (.getfield 50, 3) := by decide +kernel
theorem dX0_sizeApplied_70 : decode cX0_sizeApplied 70 = .ok (.ifCond .le 21, 3) := by decide +kernel
theorem dX0_sizeApplied_73 : decode cX0_sizeApplied 73 = .ok (.aload_n 0, 1) := by decide +kernel
theorem dX0_sizeApplied_74 : decode cX0_sizeApplied 74 = .ok (.getfield 12, 3) := by decide +kernel
theorem dX0_sizeApplied_77 : decode cX0_sizeApplied 77 = .ok (.invokevirtual 54, 3) := by decide +kernel
theorem dX0_sizeApplied_80 : decode cX0_sizeApplied 80 = .ok (.ifCond .eq 5, 3) := by decide +kernel
theorem dX0_sizeApplied_83 : decode cX0_sizeApplied 83 = .ok (.iconst (-1), 1) := by decide +kernel
theorem dX0_sizeApplied_84 : decode cX0_sizeApplied 84 = .ok (.ireturn, 1) := by decide +kernel
theorem dX0_sizeApplied_85 : decode cX0_sizeApplied 85 = .ok (.iinc 5 1, 3) := by decide +kernel
theorem dX0_sizeApplied_88 : decode cX0_sizeApplied 88 = .ok (.goto (-32), 3) := by decide +kernel
theorem dX0_sizeApplied_91 : decode cX0_sizeApplied 91 = .ok (.aload_n 0, 1) := by decide +kernel
theorem dX0_sizeApplied_92 : decode cX0_sizeApplied 92 = .ok (.getfield 12, 3) := by decide +kernel
theorem dX0_sizeApplied_95 : decode cX0_sizeApplied 95 = .ok (.iload_n 3, 1) := by decide +kernel
theorem dX0_sizeApplied_96 : decode cX0_sizeApplied 96 = .ok (.invokevirtual 85, 3) := by decide +kernel
theorem dX0_sizeApplied_99 : decode cX0_sizeApplied 99 = .ok (.istore 5, 2) := by decide +kernel
theorem dX0_sizeApplied_101 : decode cX0_sizeApplied 101 = .ok (.iload 5, 2) := by decide +kernel
theorem dX0_sizeApplied_103 : decode cX0_sizeApplied 103 = .ok (.sipush 200, 3) := by decide +kernel
theorem dX0_sizeApplied_106 : decode cX0_sizeApplied 106 = .ok (.if_icmp .le 7, 3) := by decide +kernel
theorem dX0_sizeApplied_109 : decode cX0_sizeApplied 109 = .ok (.iconst (-1), 1) := by decide +kernel
theorem dX0_sizeApplied_110 : decode cX0_sizeApplied 110 = .ok (.goto 5, 3) := by decide +kernel
theorem dX0_sizeApplied_113 : decode cX0_sizeApplied 113 = .ok (.iload 5, 2) := by decide +kernel
theorem dX0_sizeApplied_115 : decode cX0_sizeApplied 115 = .ok (.ireturn, 1) := by decide +kernel
theorem dX0_goOn_0 : decode cX0_goOn 0 = .ok (.aload_n 0, 1) := by decide +kernel
theorem dX0_goOn_1 : decode cX0_goOn 1 = .ok (.getfield 21, 3) := by decide +kernel
theorem dX0_goOn_4 : decode cX0_goOn 4 = .ok (.invokevirtual 134, 3) := by decide +kernel
theorem dX0_goOn_7 : decode cX0_goOn 7 = .ok (.istore 4, 2) := by decide +kernel
theorem dX0_goOn_9 : decode cX0_goOn 9 = .ok (.aload_n 0, 1) := by decide +kernel
theorem dX0_goOn_10 : decode cX0_goOn 10 = .ok (.dup, 1) := by decide +kernel
theorem dX0_goOn_11 : decode cX0_goOn 11 = .ok (.getfield 93, 3) := by decide +kernel
theorem dX0_goOn_14 : decode cX0_goOn 14 = .ok (.iload 4, 2) := by decide +kernel
theorem dX0_goOn_16 : decode cX0_goOn 16 = .ok (.ifCond .ne 7, 3) := by decide +kernel
theorem dX0_goOn_19 : decode cX0_goOn 19 = .ok (.iconst 1, 1) := by decide +kernel
theorem dX0_goOn_20 : decode cX0_goOn 20 = .ok (.goto 4, 3) := by decide +kernel
theorem dX0_goOn_23 : decode cX0_goOn 23 = .ok (.iconst 0, 1) := by decide +kernel
theorem dX0_goOn_24 : decode cX0_goOn 24 = .ok (.iadd, 1) := by decide +kernel
theorem dX0_goOn_25 : decode cX0_goOn 25 = .ok (.putfield 93, 3) := by decide +kernel
theorem dX0_goOn_28 : decode cX0_goOn 28 = .ok (.aload_n 1, 1) := by decide +kernel
theorem dX0_goOn_29 : decode cX0_goOn 29 = .ok (.bipush 6, 2) := by decide +kernel
theorem dX0_goOn_31 : decode cX0_goOn 31 = .ok (.iload_n 3, 1) := by decide +kernel
theorem dX0_goOn_32 : decode cX0_goOn 32 = .ok (.invokevirtual 137, 3) := by decide +kernel
theorem dX0_goOn_35 : decode cX0_goOn 35 = .ok (.istore 5, 2) := by decide +kernel
theorem dX0_goOn_37 : decode cX0_goOn 37 = .ok (.aload_n 1, 1) := by decide +kernel
theorem dX0_goOn_38 : decode cX0_goOn 38 = .ok (.iconst 0, 1) := by decide +kernel
theorem dX0_goOn_39 : decode cX0_goOn 39 = .ok (.iload_n 3, 1) := by decide +kernel
theorem dX0_goOn_40 : decode cX0_goOn 40 = .ok (.invokevirtual 137, 3) := by decide +kernel
theorem dX0_goOn_43 : decode cX0_goOn 43 = .ok (.tableswitch 113 0 5 #[37, 48, 65, 74, 91, 102], 37) := by decide +kernel
theorem dX0_goOn_80 : decode cX0_goOn 80 = .ok (.aload_n 0, 1) := by decide +kernel
theorem dX0_goOn_81 : decode cX0_goOn 81 = .ok (.aload_n 1, 1) := by decide +kernel
theorem dX0_goOn_82 : decode cX0_goOn 82 = .ok (.iload_n 3, 1) := by decide +kernel
theorem dX0_goOn_83 : decode cX0_goOn 83 = .ok (.iload 4, 2) := by decide +kernel
theorem dX0_goOn_85 : decode cX0_goOn 85 = .ok (.invokevirtual 140, 3) := by decide +kernel
theorem dX0_goOn_88 : decode cX0_goOn 88 = .ok (.goto 76, 3) := by decide +kernel
theorem dX0_goOn_91 : decode cX0_goOn 91 = .ok (.aload_n 0, 1) := by decide +kernel
theorem dX0_goOn_92 : decode cX0_goOn 92 = .ok (.iload_n 3, 1) := by decide +kernel
theorem dX0_goOn_93 : decode cX0_goOn 93 = .ok (.aload_n 2, 1) := by decide +kernel
theorem dX0_goOn_94 : decode cX0_goOn 94 = .ok (.iload 5, 2) := by decide +kernel
theorem dX0_goOn_96 : decode cX0_goOn 96 = .ok (.bipush 65, 2) := by decide +kernel
theorem dX0_goOn_98 : decode cX0_goOn 98 = .ok (.isub, 1) := by decide +kernel
theorem dX0_goOn_99 : decode cX0_goOn 99 = .ok (.invokevirtual 144, 3) := by decide +kernel
theorem dX0_goOn_102 : decode cX0_goOn 102 = .ok (.invokevirtual 150, 3) := by decide +kernel
theorem dX0_goOn_105 : decode cX0_goOn 105 = .ok (.goto 59, 3) := by decide +kernel
theorem dX0_goOn_108 : decode cX0_goOn 108 = .ok (.aload_n 0, 1) := by decide +kernel
theorem dX0_goOn_109 : decode cX0_goOn 109 = .ok (.iload_n 3, 1) := by decide +kernel
theorem dX0_goOn_110 : decode cX0_goOn 110 = .ok (.iconst 0, 1) := by decide +kernel
theorem dX0_goOn_111 : decode cX0_goOn 111 = .ok (.invokevirtual 154, 3) := by decide +kernel
theorem dX0_goOn_114 : decode cX0_goOn 114 = .ok (.goto 50, 3) := by decide +kernel
theorem dX0_goOn_117 : decode cX0_goOn 117 = .ok (.aload_n 0, 1) := by decide +kernel
theorem dX0_goOn_118 : decode cX0_goOn 118 = .ok (.iload_n 3, 1) := by decide +kernel
theorem dX0_goOn_119 : decode cX0_goOn 119 = .ok (.aload_n 0, 1) := by decide +kernel
theorem dX0_goOn_120 : decode cX0_goOn 120 = .ok (.getfield 12, 3) := by decide +kernel
theorem dX0_goOn_123 : decode cX0_goOn 123 = .ok (.iload 5, 2) := by decide +kernel
theorem dX0_goOn_125 : decode cX0_goOn 125 = .ok (.invokevirtual 157, 3) := by decide +kernel
theorem dX0_goOn_128 : decode cX0_goOn 128 = .ok (.invokevirtual 154, 3) := by decide +kernel
theorem dX0_goOn_131 : decode cX0_goOn 131 = .ok (.goto 33, 3) := by decide +kernel
theorem dX0_goOn_134 : decode cX0_goOn 134 = .ok (.aload_n 0, 1) := by decide +kernel
theorem dX0_goOn_135 : decode cX0_goOn 135 = .ok (.aload_n 1, 1) := by decide +kernel
theorem dX0_goOn_136 : decode cX0_goOn 136 = .ok (.iload_n 3, 1) := by decide +kernel
theorem dX0_goOn_137 : decode cX0_goOn 137 = .ok (.iload 4, 2) := by decide +kernel
theorem dX0_goOn_139 : decode cX0_goOn 139 = .ok (.invokevirtual 160, 3) := by decide +kernel
theorem dX0_goOn_142 : decode cX0_goOn 142 = .ok (.goto 22, 3) := by decide +kernel
theorem dX0_goOn_145 : decode cX0_goOn 145 = .ok (.aload_n 0, 1) := by decide +kernel
theorem dX0_goOn_146 : decode cX0_goOn 146 = .ok (.aload_n 1, 1) := by decide +kernel
theorem dX0_goOn_147 : decode cX0_goOn 147 = .ok (.iload_n 3, 1) := by decide +kernel
theorem dX0_goOn_148 : decode cX0_goOn 148 = .ok (.iload 4, 2) := by decide +kernel
theorem dX0_goOn_150 : decode cX0_goOn 150 = .ok (.invokevirtual 163, 3) := by decide +kernel
theorem dX0_goOn_153 : decode cX0_goOn 153 = .ok (.goto 11, 3) := by decide +kernel
theorem dX0_goOn_156 : decode cX0_goOn 156 = .ok (.aload_n 0, 1) := by decide +kernel
theorem dX0_goOn_157 : decode cX0_goOn 157 = .ok (.aload_n 1, 1) := by decide +kernel
theorem dX0_goOn_158 : decode cX0_goOn 158 = .ok (.iload_n 3, 1) := by decide +kernel
theorem dX0_goOn_159 : decode cX0_goOn 159 = .ok (.iload 4, 2) := by decide +kernel
theorem dX0_goOn_161 : decode cX0_goOn 161 = .ok (.invokevirtual 166, 3) := by decide +kernel
theorem dX0_goOn_164 : decode cX0_goOn 164 = .ok (.return_, 1) := by decide +kernel
theorem dX0_end_0 : decode cX0_end 0 = .ok (.aload_n 0, 1) := by decide +kernel
theorem dX0_end_1 : decode cX0_end 1 = .ok (.getfield 25, 3) := by decide +kernel
theorem dX0_end_4 : decode cX0_end 4 = .ok (.iload_n 1, 1) := by decide +kernel
theorem dX0_end_5 : decode cX0_end 5 = .ok (.iload_n 2, 1) := by decide +kernel
theorem dX0_end_6 : decode cX0_end 6 = .ok (.invokestatic 169, 3) := by decide +kernel
theorem dX0_end_9 : decode cX0_end 9 = .ok (.aload_n 0, 1) := by decide +kernel
theorem dX0_end_10 : decode cX0_end 10 = .ok (.iload_n 2, 1) := by decide +kernel
theorem dX0_end_11 : decode cX0_end 11 = .ok (.putfield 115, 3) := by decide +kernel
theorem dX0_end_14 : decode cX0_end 14 = .ok (.aload_n 0, 1) := by decide +kernel
theorem dX0_end_15 : decode cX0_end 15 = .ok (.getfield 21, 3) := by decide +kernel
theorem dX0_end_18 : decode cX0_end 18 = .ok (.invokevirtual 173, 3) := by decide +kernel
theorem dX0_end_21 : decode cX0_end 21 = .ok (.return_, 1) := by decide +kernel
theorem dX0_fail_0 : decode cX0_fail 0 = .ok (.aload_n 0, 1) := by decide +kernel
theorem dX0_fail_1 : decode cX0_fail 1 = .ok (.iload_n 1, 1) := by decide +kernel
theorem dX0_fail_2 : decode cX0_fail 2 = .ok (.putfield 74, 3) := by decide +kernel
theorem dX0_fail_5 : decode cX0_fail 5 = .ok (.aload_n 0, 1) := by decide +kernel
theorem dX0_fail_6 : decode cX0_fail 6 = .ok (.iload_n 2, 1) := by decide +kernel
theorem dX0_fail_7 : decode cX0_fail 7 = .ok (.putfield 102, 3) := by decide +kernel
theorem dX0_fail_10 : decode cX0_fail 10 = .ok (.return_, 1) := by decide +kernel
theorem dX0_failFitting_0 : decode cX0_failFitting 0 = .ok (.aload_n 0, 1) := by decide +kernel
theorem dX0_failFitting_1 : decode cX0_failFitting 1 = .ok (.iload_n 1, 1) := by decide +kernel
theorem dX0_failFitting_2 : decode cX0_failFitting 2 = .ok (.aload_n 0, 1) := by decide +kernel
theorem dX0_failFitting_3 : decode cX0_failFitting 3 = .ok (.getfield 21, 3) := by decide +kernel
theorem dX0_failFitting_6 : decode cX0_failFitting 6 = .ok (.invokevirtual 62, 3) := by decide +kernel
theorem dX0_failFitting_9 : decode cX0_failFitting 9 = .ok (.invokevirtual 89, 3) := by decide +kernel
theorem dX0_failFitting_12 : decode cX0_failFitting 12 = .ok (.iload_n 1, 1) := by decide +kernel
theorem dX0_failFitting_13 : decode cX0_failFitting 13 = .ok (.iconst 4, 1) := by decide +kernel
theorem dX0_failFitting_14 : decode cX0_failFitting 14 = .ok (.if_icmp .ne 25, 3) := by decide +kernel
theorem dX0_failFitting_17 : decode cX0_failFitting 17 = .ok (.aload_n 0, 1) := by decide +kernel
theorem dX0_failFitting_18 : decode cX0_failFitting 18 = .ok (.aload_n 0, 1) := by decide +kernel
theorem dX0_failFitting_19 : decode cX0_failFitting 19 = .ok (.getfield 12, 3) := by decide +kernel
theorem dX0_failFitting_22 : decode cX0_failFitting 22 = .ok (.getfield 176, 3) := by decide +kernel
theorem dX0_failFitting_25 : decode cX0_failFitting 25 = .ok (.putfield 105, 3) := by decide +kernel
theorem dX0_failFitting_28 : decode cX0_failFitting 28 = .ok (.aload_n 0, 1) := by decide +kernel
theorem dX0_failFitting_29 : decode cX0_failFitting 29 = .ok (.aload_n 0, 1) := by decide +kernel
theorem dX0_failFitting_30 : decode cX0_failFitting 30 = .ok (.getfield 12, 3) := by decide +kernel
theorem dX0_failFitting_33 : decode cX0_failFitting 33 = .ok (.getfield 177, 3) := by decide +kernel
theorem dX0_failFitting_36 : decode cX0_failFitting 36 = .ok (.putfield 108, 3) := by decide +kernel
theorem dX0_failFitting_39 : decode cX0_failFitting 39 = .ok (.return_, 1) := by decide +kernel
theorem dX0_goName_0 : decode cX0_goName 0 = .ok (.aload_n 1, 1) := by decide +kernel
theorem dX0_goName_1 : decode cX0_goName 1 = .ok (.bipush 7, 2) := by decide +kernel
theorem dX0_goName_3 : decode cX0_goName 3 = .ok (.iload_n 2, 1) := by decide +kernel
theorem dX0_goName_4 : decode cX0_goName 4 = .ok (.invokevirtual 137, 3) := by decide +kernel
theorem dX0_goName_7 : decode cX0_goName 7 = .ok (.istore 4, 2) := by decide +kernel
theorem dX0_goName_9 : decode cX0_goName 9 = .ok (.iload 4, 2) := by decide +kernel
theorem dX0_goName_11 : decode cX0_goName 11 = .ok (.ifCond .ge 12, 3) := by decide +kernel
theorem dX0_goName_14 : decode cX0_goName 14 = .ok (.aload_n 0, 1) := by decide +kernel
theorem dX0_goName_15 : decode cX0_goName 15 = .ok (.iconst 3, 1) := by decide +kernel
theorem dX0_goName_16 : decode cX0_goName 16 = .ok (.iload_n 2, 1) := by decide +kernel
theorem dX0_goName_17 : decode cX0_goName 17 = .ok (.invokevirtual 89, 3) := by decide +kernel
theorem dX0_goName_20 : decode cX0_goName 20 = .ok (.goto 96, 3) := by decide +kernel
theorem dX0_goName_23 : decode cX0_goName 23 = .ok (.aload_n 1, 1) := by decide +kernel
theorem dX0_goName_24 : decode cX0_goName 24 = .ok (.iconst 0, 1) := by decide +kernel
theorem dX0_goName_25 : decode cX0_goName 25 = .ok (.iload 4, 2) := by decide +kernel
theorem dX0_goName_27 : decode cX0_goName 27 = .ok (.invokevirtual 137, 3) := by decide +kernel
theorem dX0_goName_30 : decode cX0_goName 30 = .ok (.iconst 4, 1) := by decide +kernel
theorem dX0_goName_31 : decode cX0_goName 31 = .ok (.if_icmp .ne 20, 3) := by decide +kernel
theorem dX0_goName_34 : decode cX0_goName 34 = .ok (.aload_n 0, 1) := by decide +kernel
theorem dX0_goName_35 : decode cX0_goName 35 = .ok (.iload_n 2, 1) := by decide +kernel
theorem dX0_goName_36 : decode cX0_goName 36 = .ok (.aload_n 0, 1) := by decide +kernel
theorem dX0_goName_37 : decode cX0_goName 37 = .ok (.getfield 29, 3) := by decide +kernel
theorem dX0_goName_40 : decode cX0_goName 40 = .ok (.iload 4, 2) := by decide +kernel
theorem dX0_goName_42 : decode cX0_goName 42 = .ok (.invokestatic 81, 3) := by decide +kernel
theorem dX0_goName_45 : decode cX0_goName 45 = .ok (.invokevirtual 154, 3) := by decide +kernel
theorem dX0_goName_48 : decode cX0_goName 48 = .ok (.goto 68, 3) := by decide +kernel
theorem dX0_goName_51 : decode cX0_goName 51 = .ok (.aload_n 0, 1) := by decide +kernel
theorem dX0_goName_52 : decode cX0_goName 52 = .ok (.getfield 77, 3) := by decide +kernel
theorem dX0_goName_55 : decode cX0_goName 55 = .ok (.ifCond .ne 31, 3) := by decide +kernel
theorem dX0_goName_58 : decode cX0_goName 58 = .ok (.aload_n 0, 1) := by decide +kernel
theorem dX0_goName_59 : decode cX0_goName 59 = .ok (.iload_n 2, 1) := by decide +kernel
theorem dX0_goName_60 : decode cX0_goName 60 = .ok (.aload_n 0, 1) := by decide +kernel
theorem dX0_goName_61 : decode cX0_goName 61 = .ok (.getfield 12, 3) := by decide +kernel
theorem dX0_goName_64 : decode cX0_goName 64 = .ok (.aload_n 0, 1) := by decide +kernel
theorem dX0_goName_65 : decode cX0_goName 65 = .ok (.aload_n 0, 1) := by decide +kernel
theorem dX0_goName_66 : decode cX0_goName 66 = .ok (.getfield 32, 3) := by decide +kernel
theorem dX0_goName_69 : decode cX0_goName 69 = .ok (.iload 4, 2) := by decide +kernel
theorem dX0_goName_71 : decode cX0_goName 71 = .ok (.invokestatic 81, 3) := by decide +kernel
theorem dX0_goName_74 : decode cX0_goName 74 = .ok (.invokevirtual 178, 3) := by decide +kernel
theorem dX0_goName_77 : decode cX0_goName 77 = .ok (.invokevirtual 126, 3) := by decide +kernel
theorem dX0_goName_80 : decode cX0_goName 80 = .ok (.invokevirtual 154, 3) := by decide +kernel
theorem dX0_goName_83 : decode cX0_goName 83 = .ok (.goto 33, 3) := by decide +kernel
theorem dX0_goName_86 : decode cX0_goName 86 = .ok (.iload_n 3, 1) := by decide +kernel
theorem dX0_goName_87 : decode cX0_goName 87 = .ok (.ifCond .ne 20, 3) := by decide +kernel
theorem dX0_goName_90 : decode cX0_goName 90 = .ok (.aload_n 0, 1) := by decide +kernel
theorem dX0_goName_91 : decode cX0_goName 91 = .ok (.getfield 21, 3) := by decide +kernel
theorem dX0_goName_94 : decode cX0_goName 94 = .ok (.aload_n 1, 1) := by decide +kernel
theorem dX0_goName_95 : decode cX0_goName 95 = .ok (.iconst 2, 1) := by decide +kernel
theorem dX0_goName_96 : decode cX0_goName 96 = .ok (.iload 4, 2) := by decide +kernel
theorem dX0_goName_98 : decode cX0_goName 98 = .ok (.invokevirtual 137, 3) := by decide +kernel
theorem dX0_goName_101 : decode cX0_goName 101 = .ok (.invokevirtual 112, 3) := by decide +kernel
theorem dX0_goName_104 : decode cX0_goName 104 = .ok (.goto 12, 3) := by decide +kernel
theorem dX0_goName_107 : decode cX0_goName 107 = .ok (.aload_n 0, 1) := by decide +kernel
theorem dX0_goName_108 : decode cX0_goName 108 = .ok (.iload_n 2, 1) := by decide +kernel
theorem dX0_goName_109 : decode cX0_goName 109 = .ok (.aload_n 0, 1) := by decide +kernel
theorem dX0_goName_110 : decode cX0_goName 110 = .ok (.getfield 115, 3) := by decide +kernel
theorem dX0_goName_113 : decode cX0_goName 113 = .ok (.invokevirtual 154, 3) := by decide +kernel
theorem dX0_goName_116 : decode cX0_goName 116 = .ok (.return_, 1) := by decide +kernel
theorem dX0_goKept_0 : decode cX0_goKept 0 = .ok (.aload_n 2, 1) := by decide +kernel
theorem dX0_goKept_1 : decode cX0_goKept 1 = .ok (.ifnonnull 12, 3) := by decide +kernel
theorem dX0_goKept_4 : decode cX0_goKept 4 = .ok (.aload_n 0, 1) := by decide +kernel
theorem dX0_goKept_5 : decode cX0_goKept 5 = .ok (.iconst 3, 1) := by decide +kernel
theorem dX0_goKept_6 : decode cX0_goKept 6 = .ok (.iload_n 1, 1) := by decide +kernel
theorem dX0_goKept_7 : decode cX0_goKept 7 = .ok (.invokevirtual 89, 3) := by decide +kernel
theorem dX0_goKept_10 : decode cX0_goKept 10 = .ok (.goto 16, 3) := by decide +kernel
theorem dX0_goKept_13 : decode cX0_goKept 13 = .ok (.aload_n 0, 1) := by decide +kernel
theorem dX0_goKept_14 : decode cX0_goKept 14 = .ok (.iload_n 1, 1) := by decide +kernel
theorem dX0_goKept_15 : decode cX0_goKept 15 = .ok (.aload_n 0, 1) := by decide +kernel
theorem dX0_goKept_16 : decode cX0_goKept 16 = .ok (.getfield 12, 3) := by decide +kernel
theorem dX0_goKept_19 : decode cX0_goKept 19 = .ok (.aload_n 2, 1) := by decide +kernel
theorem dX0_goKept_20 : decode cX0_goKept 20 = .ok (.invokevirtual 126, 3) := by decide +kernel
theorem dX0_goKept_23 : decode cX0_goKept 23 = .ok (.invokevirtual 154, 3) := by decide +kernel
theorem dX0_goKept_26 : decode cX0_goKept 26 = .ok (.return_, 1) := by decide +kernel
theorem dX0_goFunction_0 : decode cX0_goFunction 0 = .ok (.iload_n 3, 1) := by decide +kernel
theorem dX0_goFunction_1 : decode cX0_goFunction 1 = .ok (.ifCond .ne 36, 3) := by decide +kernel
theorem dX0_goFunction_4 : decode cX0_goFunction 4 = .ok (.aload_n 0, 1) := by decide +kernel
theorem dX0_goFunction_5 : decode cX0_goFunction 5 = .ok (.getfield 29, 3) := by decide +kernel
theorem dX0_goFunction_8 : decode cX0_goFunction 8 = .ok (.iload_n 2, 1) := by decide +kernel
theorem dX0_goFunction_9 : decode cX0_goFunction 9 = .ok (.aload_n 0, 1) := by decide +kernel
theorem dX0_goFunction_10 : decode cX0_goFunction 10 = .ok (.getfield 12, 3) := by decide +kernel
theorem dX0_goFunction_13 : decode cX0_goFunction 13 = .ok (.iconst (-1), 1) := by decide +kernel
theorem dX0_goFunction_14 : decode cX0_goFunction 14 = .ok (.iconst (-1), 1) := by decide +kernel
theorem dX0_goFunction_15 : decode cX0_goFunction 15 = .ok (.invokevirtual 122, 3) := by decide +kernel
theorem dX0_goFunction_18 : decode cX0_goFunction 18 = .ok (.invokestatic 169, 3) := by decide +kernel
theorem dX0_goFunction_21 : decode cX0_goFunction 21 = .ok (.aload_n 0, 1) := by decide +kernel
theorem dX0_goFunction_22 : decode cX0_goFunction 22 = .ok (.getfield 21, 3) := by decide +kernel
theorem dX0_goFunction_25 : decode cX0_goFunction 25 = .ok (.aload_n 1, 1) := by decide +kernel
theorem dX0_goFunction_26 : decode cX0_goFunction 26 = .ok (.iconst 2, 1) := by decide +kernel
theorem dX0_goFunction_27 : decode cX0_goFunction 27 = .ok (.iload_n 2, 1) := by decide +kernel
theorem dX0_goFunction_28 : decode cX0_goFunction 28 = .ok (.invokevirtual 137, 3) := by decide +kernel
theorem dX0_goFunction_31 : decode cX0_goFunction 31 = .ok (.invokevirtual 112, 3) := by decide +kernel
theorem dX0_goFunction_34 : decode cX0_goFunction 34 = .ok (.goto 27, 3) := by decide +kernel
theorem dX0_goFunction_37 : decode cX0_goFunction 37 = .ok (.aload_n 0, 1) := by decide +kernel
theorem dX0_goFunction_38 : decode cX0_goFunction 38 = .ok (.iload_n 2, 1) := by decide +kernel
theorem dX0_goFunction_39 : decode cX0_goFunction 39 = .ok (.aload_n 0, 1) := by decide +kernel
theorem dX0_goFunction_40 : decode cX0_goFunction 40 = .ok (.getfield 12, 3) := by decide +kernel
theorem dX0_goFunction_43 : decode cX0_goFunction 43 = .ok (.aload_n 0, 1) := by decide +kernel
theorem dX0_goFunction_44 : decode cX0_goFunction 44 = .ok (.getfield 29, 3) := by decide +kernel
theorem dX0_goFunction_47 : decode cX0_goFunction 47 = .ok (.iload_n 2, 1) := by decide +kernel
theorem dX0_goFunction_48 : decode cX0_goFunction 48 = .ok (.invokestatic 81, 3) := by decide +kernel
theorem dX0_goFunction_51 : decode cX0_goFunction 51 = .ok (.aload_n 0, 1) := by decide +kernel
theorem dX0_goFunction_52 : decode cX0_goFunction 52 = .ok (.getfield 115, 3) := by decide +kernel
theorem dX0_goFunction_55 : decode cX0_goFunction 55 = .ok (.invokevirtual 122, 3) := by decide +kernel
theorem dX0_goFunction_58 : decode cX0_goFunction 58 = .ok (.invokevirtual 154, 3) := by decide +kernel
theorem dX0_goFunction_61 : decode cX0_goFunction 61 = .ok (.return_, 1) := by decide +kernel
theorem dX0_goLet_0 : decode cX0_goLet 0 = .ok (.iload_n 3, 1) := by decide +kernel
theorem dX0_goLet_1 : decode cX0_goLet 1 = .ok (.ifCond .ne 19, 3) := by decide +kernel
theorem dX0_goLet_4 : decode cX0_goLet 4 = .ok (.aload_n 0, 1) := by decide +kernel
theorem dX0_goLet_5 : decode cX0_goLet 5 = .ok (.getfield 21, 3) := by decide +kernel
theorem dX0_goLet_8 : decode cX0_goLet 8 = .ok (.aload_n 1, 1) := by decide +kernel
theorem dX0_goLet_9 : decode cX0_goLet 9 = .ok (.iconst 2, 1) := by decide +kernel
theorem dX0_goLet_10 : decode cX0_goLet 10 = .ok (.iload_n 2, 1) := by decide +kernel
theorem dX0_goLet_11 : decode cX0_goLet 11 = .ok (.invokevirtual 137, 3) := by decide +kernel
theorem dX0_goLet_14 : decode cX0_goLet 14 = .ok (.invokevirtual 112, 3) := by decide +kernel
theorem dX0_goLet_17 : decode cX0_goLet 17 = .ok (.goto 187, 3) := by decide +kernel
theorem dX0_goLet_20 : decode cX0_goLet 20 = .ok (.iload_n 3, 1) := by decide +kernel
theorem dX0_goLet_21 : decode cX0_goLet 21 = .ok (.iconst 2, 1) := by decide +kernel
theorem dX0_goLet_22 : decode cX0_goLet 22 = .ok (.if_icmp .ne 15, 3) := by decide +kernel
theorem dX0_goLet_25 : decode cX0_goLet 25 = .ok (.aload_n 0, 1) := by decide +kernel
theorem dX0_goLet_26 : decode cX0_goLet 26 = .ok (.iload_n 2, 1) := by decide +kernel
theorem dX0_goLet_27 : decode cX0_goLet 27 = .ok (.aload_n 0, 1) := by decide +kernel
theorem dX0_goLet_28 : decode cX0_goLet 28 = .ok (.getfield 115, 3) := by decide +kernel
theorem dX0_goLet_31 : decode cX0_goLet 31 = .ok (.invokevirtual 154, 3) := by decide +kernel
theorem dX0_goLet_34 : decode cX0_goLet 34 = .ok (.goto 170, 3) := by decide +kernel
theorem dX0_goLet_37 : decode cX0_goLet 37 = .ok (.aload_n 0, 1) := by decide +kernel
theorem dX0_goLet_38 : decode cX0_goLet 38 = .ok (.getfield 77, 3) := by decide +kernel
theorem dX0_goLet_41 : decode cX0_goLet 41 = .ok (.ifCond .eq 19, 3) := by decide +kernel
theorem dX0_goLet_44 : decode cX0_goLet 44 = .ok (.aload_n 0, 1) := by decide +kernel
theorem dX0_goLet_45 : decode cX0_goLet 45 = .ok (.getfield 21, 3) := by decide +kernel
theorem dX0_goLet_48 : decode cX0_goLet 48 = .ok (.aload_n 1, 1) := by decide +kernel
theorem dX0_goLet_49 : decode cX0_goLet 49 = .ok (.iconst 3, 1) := by decide +kernel
theorem dX0_goLet_50 : decode cX0_goLet 50 = .ok (.iload_n 2, 1) := by decide +kernel
theorem dX0_goLet_51 : decode cX0_goLet 51 = .ok (.invokevirtual 137, 3) := by decide +kernel
theorem dX0_goLet_54 : decode cX0_goLet 54 = .ok (.invokevirtual 112, 3) := by decide +kernel
theorem dX0_goLet_57 : decode cX0_goLet 57 = .ok (.goto 147, 3) := by decide +kernel
theorem dX0_goLet_60 : decode cX0_goLet 60 = .ok (.aload_n 0, 1) := by decide +kernel
theorem dX0_goLet_61 : decode cX0_goLet 61 = .ok (.getfield 12, 3) := by decide +kernel
theorem dX0_goLet_64 : decode cX0_goLet 64 = .ok (.aload_n 0, 1) := by decide +kernel
theorem dX0_goLet_65 : decode cX0_goLet 65 = .ok (.getfield 115, 3) := by decide +kernel
theorem dX0_goLet_68 : decode cX0_goLet 68 = .ok (.invokevirtual 85, 3) := by decide +kernel
theorem dX0_goLet_71 : decode cX0_goLet 71 = .ok (.sipush 200, 3) := by decide +kernel
theorem dX0_goLet_74 : decode cX0_goLet 74 = .ok (.if_icmp .le 13, 3) := by decide +kernel
theorem dX0_goLet_77 : decode cX0_goLet 77 = .ok (.aload_n 0, 1) := by decide +kernel
theorem dX0_goLet_78 : decode cX0_goLet 78 = .ok (.bipush 10, 2) := by decide +kernel
theorem dX0_goLet_80 : decode cX0_goLet 80 = .ok (.iload_n 2, 1) := by decide +kernel
theorem dX0_goLet_81 : decode cX0_goLet 81 = .ok (.invokevirtual 89, 3) := by decide +kernel
theorem dX0_goLet_84 : decode cX0_goLet 84 = .ok (.goto 120, 3) := by decide +kernel
theorem dX0_goLet_87 : decode cX0_goLet 87 = .ok (.aload_n 0, 1) := by decide +kernel
theorem dX0_goLet_88 : decode cX0_goLet 88 = .ok (.getfield 12, 3) := by decide +kernel
theorem dX0_goLet_91 : decode cX0_goLet 91 = .ok (.invokevirtual 181, 3) := by decide +kernel
theorem dX0_goLet_94 : decode cX0_goLet 94 = .ok (.istore 4, 2) := by decide +kernel
theorem dX0_goLet_96 : decode cX0_goLet 96 = .ok (.aload_n 1, 1) := by decide +kernel
theorem dX0_goLet_97 : decode cX0_goLet 97 = .ok (.iload_n 2, 1) := by decide +kernel
theorem dX0_goLet_98 : decode cX0_goLet 98 = .ok (.invokevirtual 184, 3) := by decide +kernel
theorem dX0_goLet_101 : decode cX0_goLet 101 = .ok (.istore 5, 2) := by decide +kernel
theorem dX0_goLet_103 : decode cX0_goLet 103 = .ok (.iload 5, 2) := by decide +kernel
theorem dX0_goLet_105 : decode cX0_goLet 105 = .ok (.ifCond .lt 43, 3) := by decide +kernel
theorem dX0_goLet_108 : decode cX0_goLet 108 = .ok (.aload_n 1, 1) := by decide +kernel
theorem dX0_goLet_109 : decode cX0_goLet 109 = .ok (.iconst 0, 1) := by decide +kernel
theorem dX0_goLet_110 : decode cX0_goLet 110 = .ok (.iload 5, 2) := by decide +kernel
theorem dX0_goLet_112 : decode cX0_goLet 112 = .ok (.invokevirtual 137, 3) := by decide +kernel
theorem dX0_goLet_115 : decode cX0_goLet 115 = .ok (.iconst 4, 1) := by decide +kernel
theorem dX0_goLet_116 : decode cX0_goLet 116 = .ok (.if_icmp .ne 21, 3) := by decide +kernel
theorem dX0_goLet_119 : decode cX0_goLet 119 = .ok (.aload_n 0, 1) := by decide +kernel
theorem dX0_goLet_120 : decode cX0_goLet 120 = .ok (.getfield 12, 3) := by decide +kernel
theorem dX0_goLet_123 : decode cX0_goLet 123 = .ok (.aload_n 0, 1) := by decide +kernel
theorem dX0_goLet_124 : decode cX0_goLet 124 = .ok (.getfield 29, 3) := by decide +kernel
theorem dX0_goLet_127 : decode cX0_goLet 127 = .ok (.iload 5, 2) := by decide +kernel
theorem dX0_goLet_129 : decode cX0_goLet 129 = .ok (.invokestatic 81, 3) := by decide +kernel
theorem dX0_goLet_132 : decode cX0_goLet 132 = .ok (.iload 4, 2) := by decide +kernel
theorem dX0_goLet_134 : decode cX0_goLet 134 = .ok (.invokevirtual 187, 3) := by decide +kernel
theorem dX0_goLet_137 : decode cX0_goLet 137 = .ok (.aload_n 1, 1) := by decide +kernel
theorem dX0_goLet_138 : decode cX0_goLet 138 = .ok (.iload 5, 2) := by decide +kernel
theorem dX0_goLet_140 : decode cX0_goLet 140 = .ok (.invokevirtual 184, 3) := by decide +kernel
theorem dX0_goLet_143 : decode cX0_goLet 143 = .ok (.istore 5, 2) := by decide +kernel
theorem dX0_goLet_145 : decode cX0_goLet 145 = .ok (.goto (-42), 3) := by decide +kernel
theorem dX0_goLet_148 : decode cX0_goLet 148 = .ok (.aload_n 0, 1) := by decide +kernel
theorem dX0_goLet_149 : decode cX0_goLet 149 = .ok (.getfield 12, 3) := by decide +kernel
theorem dX0_goLet_152 : decode cX0_goLet 152 = .ok (.aload_n 0, 1) := by decide +kernel
theorem dX0_goLet_153 : decode cX0_goLet 153 = .ok (.getfield 115, 3) := by decide +kernel
theorem dX0_goLet_156 : decode cX0_goLet 156 = .ok (.aload_n 0, 1) := by decide +kernel
theorem dX0_goLet_157 : decode cX0_goLet 157 = .ok (.aload_n 0, 1) := by decide +kernel
theorem dX0_goLet_158 : decode cX0_goLet 158 = .ok (.getfield 99, 3) := by decide +kernel
theorem dX0_goLet_161 : decode cX0_goLet 161 = .ok (.invokevirtual 178, 3) := by decide +kernel
theorem dX0_goLet_164 : decode cX0_goLet 164 = .ok (.iload 4, 2) := by decide +kernel
theorem dX0_goLet_166 : decode cX0_goLet 166 = .ok (.invokevirtual 118, 3) := by decide +kernel
theorem dX0_goLet_169 : decode cX0_goLet 169 = .ok (.aload_n 0, 1) := by decide +kernel
theorem dX0_goLet_170 : decode cX0_goLet 170 = .ok (.getfield 32, 3) := by decide +kernel
theorem dX0_goLet_173 : decode cX0_goLet 173 = .ok (.iload_n 2, 1) := by decide +kernel
theorem dX0_goLet_174 : decode cX0_goLet 174 = .ok (.aload_n 0, 1) := by decide +kernel
theorem dX0_goLet_175 : decode cX0_goLet 175 = .ok (.getfield 99, 3) := by decide +kernel
theorem dX0_goLet_178 : decode cX0_goLet 178 = .ok (.invokestatic 169, 3) := by decide +kernel
theorem dX0_goLet_181 : decode cX0_goLet 181 = .ok (.aload_n 0, 1) := by decide +kernel
theorem dX0_goLet_182 : decode cX0_goLet 182 = .ok (.dup, 1) := by decide +kernel
theorem dX0_goLet_183 : decode cX0_goLet 183 = .ok (.getfield 99, 3) := by decide +kernel
theorem dX0_goLet_186 : decode cX0_goLet 186 = .ok (.iconst 1, 1) := by decide +kernel
theorem dX0_goLet_187 : decode cX0_goLet 187 = .ok (.iadd, 1) := by decide +kernel
theorem dX0_goLet_188 : decode cX0_goLet 188 = .ok (.putfield 99, 3) := by decide +kernel
theorem dX0_goLet_191 : decode cX0_goLet 191 = .ok (.aload_n 0, 1) := by decide +kernel
theorem dX0_goLet_192 : decode cX0_goLet 192 = .ok (.getfield 21, 3) := by decide +kernel
theorem dX0_goLet_195 : decode cX0_goLet 195 = .ok (.aload_n 1, 1) := by decide +kernel
theorem dX0_goLet_196 : decode cX0_goLet 196 = .ok (.iconst 3, 1) := by decide +kernel
theorem dX0_goLet_197 : decode cX0_goLet 197 = .ok (.iload_n 2, 1) := by decide +kernel
theorem dX0_goLet_198 : decode cX0_goLet 198 = .ok (.invokevirtual 137, 3) := by decide +kernel
theorem dX0_goLet_201 : decode cX0_goLet 201 = .ok (.invokevirtual 112, 3) := by decide +kernel
theorem dX0_goLet_204 : decode cX0_goLet 204 = .ok (.return_, 1) := by decide +kernel
theorem dX0_goApplication_0 : decode cX0_goApplication 0 = .ok (.iload_n 3, 1) := by decide +kernel
theorem dX0_goApplication_1 : decode cX0_goApplication 1 = .ok (.tableswitch 183 0 2 #[27, 43, 70], 27) := by decide +kernel
theorem dX0_goApplication_28 : decode cX0_goApplication 28 = .ok (.aload_n 0, 1) := by decide +kernel
theorem dX0_goApplication_29 : decode cX0_goApplication 29 = .ok (.getfield 21, 3) := by decide +kernel
theorem dX0_goApplication_32 : decode cX0_goApplication 32 = .ok (.aload_n 1, 1) := by decide +kernel
theorem dX0_goApplication_33 : decode cX0_goApplication 33 = .ok (.iconst 2, 1) := by decide +kernel
theorem dX0_goApplication_34 : decode cX0_goApplication 34 = .ok (.iload_n 2, 1) := by decide +kernel
theorem dX0_goApplication_35 : decode cX0_goApplication 35 = .ok (.invokevirtual 137, 3) := by decide +kernel
theorem dX0_goApplication_38 : decode cX0_goApplication 38 = .ok (.invokevirtual 112, 3) := by decide +kernel
theorem dX0_goApplication_41 : decode cX0_goApplication 41 = .ok (.goto 193, 3) := by decide +kernel
theorem dX0_goApplication_44 : decode cX0_goApplication 44 = .ok (.aload_n 0, 1) := by decide +kernel
theorem dX0_goApplication_45 : decode cX0_goApplication 45 = .ok (.getfield 21, 3) := by decide +kernel
theorem dX0_goApplication_48 : decode cX0_goApplication 48 = .ok (.aload_n 0, 1) := by decide +kernel
theorem dX0_goApplication_49 : decode cX0_goApplication 49 = .ok (.getfield 115, 3) := by decide +kernel
theorem dX0_goApplication_52 : decode cX0_goApplication 52 = .ok (.invokevirtual 190, 3) := by decide +kernel
theorem dX0_goApplication_55 : decode cX0_goApplication 55 = .ok (.aload_n 0, 1) := by decide +kernel
theorem dX0_goApplication_56 : decode cX0_goApplication 56 = .ok (.getfield 21, 3) := by decide +kernel
theorem dX0_goApplication_59 : decode cX0_goApplication 59 = .ok (.aload_n 1, 1) := by decide +kernel
theorem dX0_goApplication_60 : decode cX0_goApplication 60 = .ok (.iconst 3, 1) := by decide +kernel
theorem dX0_goApplication_61 : decode cX0_goApplication 61 = .ok (.iload_n 2, 1) := by decide +kernel
theorem dX0_goApplication_62 : decode cX0_goApplication 62 = .ok (.invokevirtual 137, 3) := by decide +kernel
theorem dX0_goApplication_65 : decode cX0_goApplication 65 = .ok (.invokevirtual 112, 3) := by decide +kernel
theorem dX0_goApplication_68 : decode cX0_goApplication 68 = .ok (.goto 166, 3) := by decide +kernel
theorem dX0_goApplication_71 : decode cX0_goApplication 71 = .ok (.aload_n 0, 1) := by decide +kernel
theorem dX0_goApplication_72 : decode cX0_goApplication 72 = .ok (.getfield 77, 3) := by decide +kernel
theorem dX0_goApplication_75 : decode cX0_goApplication 75 = .ok (.ifCond .eq 7, 3) := by decide +kernel
theorem dX0_goApplication_78 : decode cX0_goApplication 78 = .ok (.iconst 0, 1) := by decide +kernel
theorem dX0_goApplication_79 : decode cX0_goApplication 79 = .ok (.goto 31, 3) := by decide +kernel
theorem dX0_goApplication_82 : decode cX0_goApplication 82 = .ok (.aload_n 0, 1) := by decide +kernel
theorem dX0_goApplication_83 : decode cX0_goApplication 83 = .ok (.getfield 12, 3) := by decide +kernel
theorem dX0_goApplication_86 : decode cX0_goApplication 86 = .ok (.aload_n 0, 1) := by decide +kernel
theorem dX0_goApplication_87 : decode cX0_goApplication 87 = .ok (.getfield 21, 3) := by decide +kernel
theorem dX0_goApplication_90 : decode cX0_goApplication 90 = .ok (.invokevirtual 193, 3) := by decide +kernel
theorem dX0_goApplication_93 : decode cX0_goApplication 93 = .ok (.invokevirtual 85, 3) := by decide +kernel
theorem dX0_goApplication_96 : decode cX0_goApplication 96 = .ok (.aload_n 0, 1) := by decide +kernel
theorem dX0_goApplication_97 : decode cX0_goApplication 97 = .ok (.getfield 12, 3) := by decide +kernel
theorem dX0_goApplication_100 : decode cX0_goApplication 100 = .ok (.aload_n 0, 1) := by decide +kernel
theorem dX0_goApplication_101 : decode cX0_goApplication 101 = .ok (.getfield 115, 3) := by decide +kernel
theorem dX0_goApplication_104 : decode cX0_goApplication 104 = .ok (.invokevirtual 85, 3) := by decide +kernel
theorem dX0_goApplication_107 : decode cX0_goApplication 107 = .ok (.invokestatic 196, 3) := by decide +kernel
theorem dX0_goApplication_110 : decode cX0_goApplication 110 = .ok (.istore 4, 2) := by decide +kernel
theorem dX0_goApplication_112 : decode cX0_goApplication 112 = .ok (.iload 4, 2) := by decide +kernel
theorem dX0_goApplication_114 : decode cX0_goApplication 114 = .ok (.sipush 200, 3) := by decide +kernel
theorem dX0_goApplication_117 : decode cX0_goApplication 117 = .ok (.if_icmp .le 13, 3) := by decide +kernel
theorem dX0_goApplication_120 : decode cX0_goApplication 120 = .ok (.aload_n 0, 1) := by decide +kernel
theorem dX0_goApplication_121 : decode cX0_goApplication 121 = .ok (.bipush 10, 2) := by decide +kernel
theorem dX0_goApplication_123 : decode cX0_goApplication 123 = .ok (.iload_n 2, 1) := by decide +kernel
theorem dX0_goApplication_124 : decode cX0_goApplication 124 = .ok (.invokevirtual 89, 3) := by decide +kernel
theorem dX0_goApplication_127 : decode cX0_goApplication 127 = .ok (.goto 107, 3) := by decide +kernel
theorem dX0_goApplication_130 : decode cX0_goApplication 130 = .ok (.aload_n 0, 1) := by decide +kernel
theorem dX0_goApplication_131 : decode cX0_goApplication 131 = .ok (.getfield 25, 3) := by decide +kernel
theorem dX0_goApplication_134 : decode cX0_goApplication 134 = .ok (.iload_n 2, 1) := by decide +kernel
theorem dX0_goApplication_135 : decode cX0_goApplication 135 = .ok (.aload_n 0, 1) := by decide +kernel
theorem dX0_goApplication_136 : decode cX0_goApplication 136 = .ok (.getfield 12, 3) := by decide +kernel
theorem dX0_goApplication_139 : decode cX0_goApplication 139 = .ok (.iconst (-1), 1) := by decide +kernel
theorem dX0_goApplication_140 : decode cX0_goApplication 140 = .ok (.iconst (-1), 1) := by decide +kernel
theorem dX0_goApplication_141 : decode cX0_goApplication 141 = .ok (.invokevirtual 122, 3) := by decide +kernel
theorem dX0_goApplication_144 : decode cX0_goApplication 144 = .ok (.invokestatic 169, 3) := by decide +kernel
theorem dX0_goApplication_147 : decode cX0_goApplication 147 = .ok (.aload_n 0, 1) := by decide +kernel
theorem dX0_goApplication_148 : decode cX0_goApplication 148 = .ok (.getfield 12, 3) := by decide +kernel
theorem dX0_goApplication_151 : decode cX0_goApplication 151 = .ok (.aload_n 0, 1) := by decide +kernel
theorem dX0_goApplication_152 : decode cX0_goApplication 152 = .ok (.getfield 21, 3) := by decide +kernel
theorem dX0_goApplication_155 : decode cX0_goApplication 155 = .ok (.invokevirtual 193, 3) := by decide +kernel
theorem dX0_goApplication_158 : decode cX0_goApplication 158 = .ok (.aload_n 0, 1) := by decide +kernel
theorem dX0_goApplication_159 : decode cX0_goApplication 159 = .ok (.getfield 12, 3) := by decide +kernel
theorem dX0_goApplication_162 : decode cX0_goApplication 162 = .ok (.aload_n 0, 1) := by decide +kernel
theorem dX0_goApplication_163 : decode cX0_goApplication 163 = .ok (.getfield 115, 3) := by decide +kernel
theorem dX0_goApplication_166 : decode cX0_goApplication 166 = .ok (.aload_n 0, 1) := by decide +kernel
theorem dX0_goApplication_167 : decode cX0_goApplication 167 = .ok (.getfield 25, 3) := by decide +kernel
theorem dX0_goApplication_170 : decode cX0_goApplication 170 = .ok (.iload_n 2, 1) := by decide +kernel
theorem dX0_goApplication_171 : decode cX0_goApplication 171 = .ok (.invokestatic 81, 3) := by decide +kernel
theorem dX0_goApplication_174 : decode cX0_goApplication 174 = .ok (.invokevirtual 122, 3) := by decide +kernel
theorem dX0_goApplication_177 : decode cX0_goApplication 177 = .ok (.iconst 0, 1) := by decide +kernel
theorem dX0_goApplication_178 : decode cX0_goApplication 178 = .ok (.invokevirtual 130, 3) := by decide +kernel
theorem dX0_goApplication_181 : decode cX0_goApplication 181 = .ok (.goto 53, 3) := by decide +kernel
theorem dX0_goApplication_184 : decode cX0_goApplication 184 = .ok (.aload_n 0, 1) := by decide +kernel
theorem dX0_goApplication_185 : decode cX0_goApplication 185 = .ok (.getfield 77, 3) := by decide +kernel
theorem dX0_goApplication_188 : decode cX0_goApplication 188 = .ok (.ifCond .ne 33, 3) := by decide +kernel
theorem dX0_goApplication_191 : decode cX0_goApplication 191 = .ok (.aload_n 0, 1) := by decide +kernel
theorem dX0_goApplication_192 : decode cX0_goApplication 192 = .ok (.getfield 12, 3) := by decide +kernel
theorem dX0_goApplication_195 : decode cX0_goApplication 195 = .ok (.aload_n 0, 1) := by decide +kernel
theorem dX0_goApplication_196 : decode cX0_goApplication 196 = .ok (.getfield 21, 3) := by decide +kernel
theorem dX0_goApplication_199 : decode cX0_goApplication 199 = .ok (.invokevirtual 193, 3) := by decide +kernel
theorem dX0_goApplication_202 : decode cX0_goApplication 202 = .ok (.invokevirtual 85, 3) := by decide +kernel
theorem dX0_goApplication_205 : decode cX0_goApplication 205 = .ok (.sipush 200, 3) := by decide +kernel
theorem dX0_goApplication_208 : decode cX0_goApplication 208 = .ok (.if_icmp .le 13, 3) := by decide +kernel
theorem dX0_goApplication_211 : decode cX0_goApplication 211 = .ok (.aload_n 0, 1) := by decide +kernel
theorem dX0_goApplication_212 : decode cX0_goApplication 212 = .ok (.bipush 10, 2) := by decide +kernel
theorem dX0_goApplication_214 : decode cX0_goApplication 214 = .ok (.iload_n 2, 1) := by decide +kernel
theorem dX0_goApplication_215 : decode cX0_goApplication 215 = .ok (.invokevirtual 89, 3) := by decide +kernel
theorem dX0_goApplication_218 : decode cX0_goApplication 218 = .ok (.goto 16, 3) := by decide +kernel
theorem dX0_goApplication_221 : decode cX0_goApplication 221 = .ok (.aload_n 0, 1) := by decide +kernel
theorem dX0_goApplication_222 : decode cX0_goApplication 222 = .ok (.iload_n 2, 1) := by decide +kernel
theorem dX0_goApplication_223 : decode cX0_goApplication 223 = .ok (.aload_n 0, 1) := by decide +kernel
theorem dX0_goApplication_224 : decode cX0_goApplication 224 = .ok (.getfield 25, 3) := by decide +kernel
theorem dX0_goApplication_227 : decode cX0_goApplication 227 = .ok (.iload_n 2, 1) := by decide +kernel
theorem dX0_goApplication_228 : decode cX0_goApplication 228 = .ok (.invokestatic 81, 3) := by decide +kernel
theorem dX0_goApplication_231 : decode cX0_goApplication 231 = .ok (.invokevirtual 154, 3) := by decide +kernel
theorem dX0_goApplication_234 : decode cX0_goApplication 234 = .ok (.return_, 1) := by decide +kernel
theorem dX0_scheme_0 : decode cX0_scheme 0 = .ok (.iload_n 1, 1) := by decide +kernel
theorem dX0_scheme_1 : decode cX0_scheme 1 = .ok (.ifCond .lt 12, 3) := by decide +kernel
theorem dX0_scheme_4 : decode cX0_scheme 4 = .ok (.iload_n 1, 1) := by decide +kernel
theorem dX0_scheme_5 : decode cX0_scheme 5 = .ok (.aload_n 0, 1) := by decide +kernel
theorem dX0_scheme_6 : decode cX0_scheme 6 = .ok (.getfield 37, 3) := by decide +kernel
theorem dX0_scheme_9 : decode cX0_scheme 9 = .ok (.arraylength, 1) := by decide +kernel
theorem dX0_scheme_10 : decode cX0_scheme 10 = .ok (.if_icmp .lt 14, 3) := by decide +kernel
theorem dX0_scheme_13 : decode cX0_scheme 13 = .ok (.new 35, 3) := by decide +kernel
theorem dX0_scheme_16 : decode cX0_scheme 16 = .ok (.dup, 1) := by decide +kernel
theorem dX0_scheme_17 : decode cX0_scheme 17 = .ok (.sipush 200, 3) := by decide +kernel
theorem dX0_scheme_20 : decode cX0_scheme 20 = .ok (.invokespecial 201, 3) := by decide +kernel
theorem dX0_scheme_23 : decode cX0_scheme 23 = .ok (.areturn, 1) := by decide +kernel
theorem dX0_scheme_24 : decode cX0_scheme 24 = .ok (.aload_n 0, 1) := by decide +kernel
theorem dX0_scheme_25 : decode cX0_scheme 25 = .ok (.getfield 37, 3) := by decide +kernel
theorem dX0_scheme_28 : decode cX0_scheme 28 = .ok (.iload_n 1, 1) := by decide +kernel
theorem dX0_scheme_29 : decode cX0_scheme 29 = .ok (.aaload, 1) := by decide +kernel
theorem dX0_scheme_30 : decode cX0_scheme 30 = .ok (.ifnonnull 19, 3) := by decide +kernel
theorem dX0_scheme_33 : decode cX0_scheme 33 = .ok (.aload_n 0, 1) := by decide +kernel
theorem dX0_scheme_34 : decode cX0_scheme 34 = .ok (.getfield 37, 3) := by decide +kernel
theorem dX0_scheme_37 : decode cX0_scheme 37 = .ok (.iload_n 1, 1) := by decide +kernel
theorem dX0_scheme_38 : decode cX0_scheme 38 = .ok (.new 35, 3) := by decide +kernel
theorem dX0_scheme_41 : decode cX0_scheme 41 = .ok (.dup, 1) := by decide +kernel
theorem dX0_scheme_42 : decode cX0_scheme 42 = .ok (.sipush 200, 3) := by decide +kernel
theorem dX0_scheme_45 : decode cX0_scheme 45 = .ok (.invokespecial 201, 3) := by decide +kernel
theorem dX0_scheme_48 : decode cX0_scheme 48 = .ok (.aastore, 1) := by decide +kernel
theorem dX0_scheme_49 : decode cX0_scheme 49 = .ok (.aload_n 0, 1) := by decide +kernel
theorem dX0_scheme_50 : decode cX0_scheme 50 = .ok (.getfield 37, 3) := by decide +kernel
theorem dX0_scheme_53 : decode cX0_scheme 53 = .ok (.iload_n 1, 1) := by decide +kernel
theorem dX0_scheme_54 : decode cX0_scheme 54 = .ok (.aaload, 1) := by decide +kernel
theorem dX0_scheme_55 : decode cX0_scheme 55 = .ok (.areturn, 1) := by decide +kernel
theorem dX1_init_0 : decode cX1_init 0 = .ok (.aload_n 0, 1) := by decide +kernel
theorem dX1_init_1 : decode cX1_init 1 = .ok (.invokespecial 3, 3) := by decide +kernel
theorem dX1_init_4 : decode cX1_init 4 = .ok (.aload_n 0, 1) := by decide +kernel
theorem dX1_init_5 : decode cX1_init 5 = .ok (.bipush 8, 2) := by decide +kernel
theorem dX1_init_7 : decode cX1_init 7 = .ok (.anewarray 9, 3) := by decide +kernel
theorem dX1_init_10 : decode cX1_init 10 = .ok (.putfield 11, 3) := by decide +kernel
theorem dX1_init_13 : decode cX1_init 13 = .ok (.return_, 1) := by decide +kernel
theorem dX1_push_0 : decode cX1_push 0 = .ok (.aload_n 0, 1) := by decide +kernel
theorem dX1_push_1 : decode cX1_push 1 = .ok (.aload_n 0, 1) := by decide +kernel
theorem dX1_push_2 : decode cX1_push 2 = .ok (.getfield 17, 3) := by decide +kernel
theorem dX1_push_5 : decode cX1_push 5 = .ok (.invokevirtual 21, 3) := by decide +kernel
theorem dX1_push_8 : decode cX1_push 8 = .ok (.aload_n 1, 1) := by decide +kernel
theorem dX1_push_9 : decode cX1_push 9 = .ok (.invokevirtual 25, 3) := by decide +kernel
theorem dX1_push_12 : decode cX1_push 12 = .ok (.aload_n 0, 1) := by decide +kernel
theorem dX1_push_13 : decode cX1_push 13 = .ok (.aload_n 0, 1) := by decide +kernel
theorem dX1_push_14 : decode cX1_push 14 = .ok (.getfield 17, 3) := by decide +kernel
theorem dX1_push_17 : decode cX1_push 17 = .ok (.iconst 1, 1) := by decide +kernel
theorem dX1_push_18 : decode cX1_push 18 = .ok (.iadd, 1) := by decide +kernel
theorem dX1_push_19 : decode cX1_push 19 = .ok (.bipush 8, 2) := by decide +kernel
theorem dX1_push_21 : decode cX1_push 21 = .ok (.invokestatic 29, 3) := by decide +kernel
theorem dX1_push_24 : decode cX1_push 24 = .ok (.putfield 17, 3) := by decide +kernel
theorem dX1_push_27 : decode cX1_push 27 = .ok (.aload_n 0, 1) := by decide +kernel
theorem dX1_push_28 : decode cX1_push 28 = .ok (.aload_n 0, 1) := by decide +kernel
theorem dX1_push_29 : decode cX1_push 29 = .ok (.getfield 35, 3) := by decide +kernel
theorem dX1_push_32 : decode cX1_push 32 = .ok (.iconst 1, 1) := by decide +kernel
theorem dX1_push_33 : decode cX1_push 33 = .ok (.iadd, 1) := by decide +kernel
theorem dX1_push_34 : decode cX1_push 34 = .ok (.bipush 8, 2) := by decide +kernel
theorem dX1_push_36 : decode cX1_push 36 = .ok (.invokestatic 38, 3) := by decide +kernel
theorem dX1_push_39 : decode cX1_push 39 = .ok (.putfield 35, 3) := by decide +kernel
theorem dX1_push_42 : decode cX1_push 42 = .ok (.return_, 1) := by decide +kernel
theorem dX1_pop_0 : decode cX1_pop 0 = .ok (.aload_n 0, 1) := by decide +kernel
theorem dX1_pop_1 : decode cX1_pop 1 = .ok (.aload_n 0, 1) := by decide +kernel
theorem dX1_pop_2 : decode cX1_pop 2 = .ok (.getfield 17, 3) := by decide +kernel
theorem dX1_pop_5 : decode cX1_pop 5 = .ok (.iconst 1, 1) := by decide +kernel
theorem dX1_pop_6 : decode cX1_pop 6 = .ok (.isub, 1) := by decide +kernel
theorem dX1_pop_7 : decode cX1_pop 7 = .ok (.bipush 8, 2) := by decide +kernel
theorem dX1_pop_9 : decode cX1_pop 9 = .ok (.invokestatic 29, 3) := by decide +kernel
theorem dX1_pop_12 : decode cX1_pop 12 = .ok (.putfield 17, 3) := by decide +kernel
theorem dX1_pop_15 : decode cX1_pop 15 = .ok (.aload_n 1, 1) := by decide +kernel
theorem dX1_pop_16 : decode cX1_pop 16 = .ok (.aload_n 0, 1) := by decide +kernel
theorem dX1_pop_17 : decode cX1_pop 17 = .ok (.aload_n 0, 1) := by decide +kernel
theorem dX1_pop_18 : decode cX1_pop 18 = .ok (.getfield 17, 3) := by decide +kernel
theorem dX1_pop_21 : decode cX1_pop 21 = .ok (.invokevirtual 21, 3) := by decide +kernel
theorem dX1_pop_24 : decode cX1_pop 24 = .ok (.invokevirtual 25, 3) := by decide +kernel
theorem dX1_pop_27 : decode cX1_pop 27 = .ok (.aload_n 0, 1) := by decide +kernel
theorem dX1_pop_28 : decode cX1_pop 28 = .ok (.aload_n 0, 1) := by decide +kernel
theorem dX1_pop_29 : decode cX1_pop 29 = .ok (.getfield 35, 3) := by decide +kernel
theorem dX1_pop_32 : decode cX1_pop 32 = .ok (.iconst 1, 1) := by decide +kernel
theorem dX1_pop_33 : decode cX1_pop 33 = .ok (.isub, 1) := by decide +kernel
theorem dX1_pop_34 : decode cX1_pop 34 = .ok (.iconst 0, 1) := by decide +kernel
theorem dX1_pop_35 : decode cX1_pop 35 = .ok (.invokestatic 41, 3) := by decide +kernel
theorem dX1_pop_38 : decode cX1_pop 38 = .ok (.putfield 35, 3) := by decide +kernel
theorem dX1_pop_41 : decode cX1_pop 41 = .ok (.return_, 1) := by decide +kernel
theorem dX1_clear_0 : decode cX1_clear 0 = .ok (.aload_n 0, 1) := by decide +kernel
theorem dX1_clear_1 : decode cX1_clear 1 = .ok (.iconst 0, 1) := by decide +kernel
theorem dX1_clear_2 : decode cX1_clear 2 = .ok (.putfield 35, 3) := by decide +kernel
theorem dX1_clear_5 : decode cX1_clear 5 = .ok (.return_, 1) := by decide +kernel
theorem dX1_stateAt_0 : decode cX1_stateAt 0 = .ok (.iload_n 1, 1) := by decide +kernel
theorem dX1_stateAt_1 : decode cX1_stateAt 1 = .ok (.ifCond .lt 12, 3) := by decide +kernel
theorem dX1_stateAt_4 : decode cX1_stateAt 4 = .ok (.iload_n 1, 1) := by decide +kernel
theorem dX1_stateAt_5 : decode cX1_stateAt 5 = .ok (.aload_n 0, 1) := by decide +kernel
theorem dX1_stateAt_6 : decode cX1_stateAt 6 = .ok (.getfield 11, 3) := by decide +kernel
theorem dX1_stateAt_9 : decode cX1_stateAt 9 = .ok (.arraylength, 1) := by decide +kernel
theorem dX1_stateAt_10 : decode cX1_stateAt 10 = .ok (.if_icmp .lt 11, 3) := by decide +kernel
theorem dX1_stateAt_13 : decode cX1_stateAt 13 = .ok (.new 9, 3) := by decide +kernel
theorem dX1_stateAt_16 : decode cX1_stateAt 16 = .ok (.dup, 1) := by decide +kernel
theorem dX1_stateAt_17 : decode cX1_stateAt 17 = .ok (.invokespecial 44, 3) := by decide +kernel
theorem dX1_stateAt_20 : decode cX1_stateAt 20 = .ok (.areturn, 1) := by decide +kernel
theorem dX1_stateAt_21 : decode cX1_stateAt 21 = .ok (.aload_n 0, 1) := by decide +kernel
theorem dX1_stateAt_22 : decode cX1_stateAt 22 = .ok (.getfield 11, 3) := by decide +kernel
theorem dX1_stateAt_25 : decode cX1_stateAt 25 = .ok (.iload_n 1, 1) := by decide +kernel
theorem dX1_stateAt_26 : decode cX1_stateAt 26 = .ok (.aaload, 1) := by decide +kernel
theorem dX1_stateAt_27 : decode cX1_stateAt 27 = .ok (.ifnonnull 16, 3) := by decide +kernel
theorem dX1_stateAt_30 : decode cX1_stateAt 30 = .ok (.aload_n 0, 1) := by decide +kernel
theorem dX1_stateAt_31 : decode cX1_stateAt 31 = .ok (.getfield 11, 3) := by decide +kernel
theorem dX1_stateAt_34 : decode cX1_stateAt 34 = .ok (.iload_n 1, 1) := by decide +kernel
theorem dX1_stateAt_35 : decode cX1_stateAt 35 = .ok (.new 9, 3) := by decide +kernel
theorem dX1_stateAt_38 : decode cX1_stateAt 38 = .ok (.dup, 1) := by decide +kernel
theorem dX1_stateAt_39 : decode cX1_stateAt 39 = .ok (.invokespecial 44, 3) := by decide +kernel
theorem dX1_stateAt_42 : decode cX1_stateAt 42 = .ok (.aastore, 1) := by decide +kernel
theorem dX1_stateAt_43 : decode cX1_stateAt 43 = .ok (.aload_n 0, 1) := by decide +kernel
theorem dX1_stateAt_44 : decode cX1_stateAt 44 = .ok (.getfield 11, 3) := by decide +kernel
theorem dX1_stateAt_47 : decode cX1_stateAt 47 = .ok (.iload_n 1, 1) := by decide +kernel
theorem dX1_stateAt_48 : decode cX1_stateAt 48 = .ok (.aaload, 1) := by decide +kernel
theorem dX1_stateAt_49 : decode cX1_stateAt 49 = .ok (.areturn, 1) := by decide +kernel
theorem dX2_faultIn_0 : decode cX2_faultIn 0 = .ok (.iconst 0, 1) := by decide +kernel
theorem dX2_faultIn_1 : decode cX2_faultIn 1 = .ok (.istore_n 1, 1) := by decide +kernel
theorem dX2_faultIn_2 : decode cX2_faultIn 2 = .ok (.iconst 0, 1) := by decide +kernel
theorem dX2_faultIn_3 : decode cX2_faultIn 3 = .ok (.istore_n 2, 1) := by decide +kernel
theorem dX2_faultIn_4 : decode cX2_faultIn 4 = .ok (.iload_n 2, 1) := by decide +kernel
theorem dX2_faultIn_5 : decode cX2_faultIn 5 = .ok (.aload_n 0, 1) := by decide +kernel
theorem dX2_faultIn_6 : decode cX2_faultIn 6 = .ok (.invokevirtual 9, 3) := by decide +kernel
theorem dX2_faultIn_9 : decode cX2_faultIn 9 = .ok (.if_icmp .ge 26, 3) := by decide +kernel
theorem dX2_faultIn_12 : decode cX2_faultIn 12 = .ok (.iload_n 1, 1) := by decide +kernel
theorem dX2_faultIn_13 : decode cX2_faultIn 13 = .ok (.aload_n 0, 1) := by decide +kernel
theorem dX2_faultIn_14 : decode cX2_faultIn 14 = .ok (.iload_n 2, 1) := by decide +kernel
theorem dX2_faultIn_15 : decode cX2_faultIn 15 = .ok (.invokevirtual 15, 3) := by decide +kernel
theorem dX2_faultIn_18 : decode cX2_faultIn 18 = .ok (.invokestatic 19, 3) := by decide +kernel
theorem dX2_faultIn_21 : decode cX2_faultIn 21 = .ok (.istore_n 1, 1) := by decide +kernel
theorem dX2_faultIn_22 : decode cX2_faultIn 22 = .ok (.iload_n 1, 1) := by decide +kernel
theorem dX2_faultIn_23 : decode cX2_faultIn 23 = .ok (.iconst 5, 1) := by decide +kernel
theorem dX2_faultIn_24 : decode cX2_faultIn 24 = .ok (.if_icmp .ne 5, 3) := by decide +kernel
theorem dX2_faultIn_27 : decode cX2_faultIn 27 = .ok (.iload_n 2, 1) := by decide +kernel
theorem dX2_faultIn_28 : decode cX2_faultIn 28 = .ok (.ireturn, 1) := by decide +kernel
theorem dX2_faultIn_29 : decode cX2_faultIn 29 = .ok (.iinc 2 1, 3) := by decide +kernel
theorem dX2_faultIn_32 : decode cX2_faultIn 32 = .ok (.goto (-28), 3) := by decide +kernel
theorem dX2_faultIn_35 : decode cX2_faultIn 35 = .ok (.iload_n 1, 1) := by decide +kernel
theorem dX2_faultIn_36 : decode cX2_faultIn 36 = .ok (.iconst 4, 1) := by decide +kernel
theorem dX2_faultIn_37 : decode cX2_faultIn 37 = .ok (.if_icmp .ne 7, 3) := by decide +kernel
theorem dX2_faultIn_40 : decode cX2_faultIn 40 = .ok (.iconst (-1), 1) := by decide +kernel
theorem dX2_faultIn_41 : decode cX2_faultIn 41 = .ok (.goto 7, 3) := by decide +kernel
theorem dX2_faultIn_44 : decode cX2_faultIn 44 = .ok (.aload_n 0, 1) := by decide +kernel
theorem dX2_faultIn_45 : decode cX2_faultIn 45 = .ok (.invokevirtual 9, 3) := by decide +kernel
theorem dX2_faultIn_48 : decode cX2_faultIn 48 = .ok (.ireturn, 1) := by decide +kernel
theorem dX2_placeBehind_0 : decode cX2_placeBehind 0 = .ok (.iload_n 0, 1) := by decide +kernel
theorem dX2_placeBehind_1 : decode cX2_placeBehind 1 = .ok (.tableswitch 102 0 3 #[31, 63, 76, 89], 31) := by decide +kernel
theorem dX2_placeBehind_32 : decode cX2_placeBehind 32 = .ok (.iload_n 1, 1) := by decide +kernel
theorem dX2_placeBehind_33 : decode cX2_placeBehind 33 = .ok (.bipush 107, 2) := by decide +kernel
theorem dX2_placeBehind_35 : decode cX2_placeBehind 35 = .ok (.if_icmp .ne 7, 3) := by decide +kernel
theorem dX2_placeBehind_38 : decode cX2_placeBehind 38 = .ok (.iconst 2, 1) := by decide +kernel
theorem dX2_placeBehind_39 : decode cX2_placeBehind 39 = .ok (.goto 24, 3) := by decide +kernel
theorem dX2_placeBehind_42 : decode cX2_placeBehind 42 = .ok (.iload_n 1, 1) := by decide +kernel
theorem dX2_placeBehind_43 : decode cX2_placeBehind 43 = .ok (.bipush 117, 2) := by decide +kernel
theorem dX2_placeBehind_45 : decode cX2_placeBehind 45 = .ok (.if_icmp .ne 7, 3) := by decide +kernel
theorem dX2_placeBehind_48 : decode cX2_placeBehind 48 = .ok (.iconst 3, 1) := by decide +kernel
theorem dX2_placeBehind_49 : decode cX2_placeBehind 49 = .ok (.goto 14, 3) := by decide +kernel
theorem dX2_placeBehind_52 : decode cX2_placeBehind 52 = .ok (.iload_n 1, 1) := by decide +kernel
theorem dX2_placeBehind_53 : decode cX2_placeBehind 53 = .ok (.bipush 120, 2) := by decide +kernel
theorem dX2_placeBehind_55 : decode cX2_placeBehind 55 = .ok (.if_icmp .ne 7, 3) := by decide +kernel
theorem dX2_placeBehind_58 : decode cX2_placeBehind 58 = .ok (.iconst 1, 1) := by decide +kernel
theorem dX2_placeBehind_59 : decode cX2_placeBehind 59 = .ok (.goto 4, 3) := by decide +kernel
theorem dX2_placeBehind_62 : decode cX2_placeBehind 62 = .ok (.iconst 5, 1) := by decide +kernel
theorem dX2_placeBehind_63 : decode cX2_placeBehind 63 = .ok (.ireturn, 1) := by decide +kernel
theorem dX2_placeBehind_64 : decode cX2_placeBehind 64 = .ok (.iload_n 1, 1) := by decide +kernel
theorem dX2_placeBehind_65 : decode cX2_placeBehind 65 = .ok (.invokestatic 23, 3) := by decide +kernel
theorem dX2_placeBehind_68 : decode cX2_placeBehind 68 = .ok (.ifCond .eq 7, 3) := by decide +kernel
theorem dX2_placeBehind_71 : decode cX2_placeBehind 71 = .ok (.iconst 4, 1) := by decide +kernel
theorem dX2_placeBehind_72 : decode cX2_placeBehind 72 = .ok (.goto 4, 3) := by decide +kernel
theorem dX2_placeBehind_75 : decode cX2_placeBehind 75 = .ok (.iconst 5, 1) := by decide +kernel
theorem dX2_placeBehind_76 : decode cX2_placeBehind 76 = .ok (.ireturn, 1) := by decide +kernel
theorem dX2_placeBehind_77 : decode cX2_placeBehind 77 = .ok (.iload_n 1, 1) := by decide +kernel
theorem dX2_placeBehind_78 : decode cX2_placeBehind 78 = .ok (.invokestatic 23, 3) := by decide +kernel
theorem dX2_placeBehind_81 : decode cX2_placeBehind 81 = .ok (.ifCond .eq 7, 3) := by decide +kernel
theorem dX2_placeBehind_84 : decode cX2_placeBehind 84 = .ok (.iconst 3, 1) := by decide +kernel
theorem dX2_placeBehind_85 : decode cX2_placeBehind 85 = .ok (.goto 4, 3) := by decide +kernel
theorem dX2_placeBehind_88 : decode cX2_placeBehind 88 = .ok (.iconst 5, 1) := by decide +kernel
theorem dX2_placeBehind_89 : decode cX2_placeBehind 89 = .ok (.ireturn, 1) := by decide +kernel
theorem dX2_placeBehind_90 : decode cX2_placeBehind 90 = .ok (.iload_n 1, 1) := by decide +kernel
theorem dX2_placeBehind_91 : decode cX2_placeBehind 91 = .ok (.invokestatic 29, 3) := by decide +kernel
theorem dX2_placeBehind_94 : decode cX2_placeBehind 94 = .ok (.ifCond .eq 7, 3) := by decide +kernel
theorem dX2_placeBehind_97 : decode cX2_placeBehind 97 = .ok (.iconst 4, 1) := by decide +kernel
theorem dX2_placeBehind_98 : decode cX2_placeBehind 98 = .ok (.goto 4, 3) := by decide +kernel
theorem dX2_placeBehind_101 : decode cX2_placeBehind 101 = .ok (.iconst 5, 1) := by decide +kernel
theorem dX2_placeBehind_102 : decode cX2_placeBehind 102 = .ok (.ireturn, 1) := by decide +kernel
theorem dX2_placeBehind_103 : decode cX2_placeBehind 103 = .ok (.iload_n 1, 1) := by decide +kernel
theorem dX2_placeBehind_104 : decode cX2_placeBehind 104 = .ok (.bipush 59, 2) := by decide +kernel
theorem dX2_placeBehind_106 : decode cX2_placeBehind 106 = .ok (.if_icmp .ne 7, 3) := by decide +kernel
theorem dX2_placeBehind_109 : decode cX2_placeBehind 109 = .ok (.iconst 0, 1) := by decide +kernel
theorem dX2_placeBehind_110 : decode cX2_placeBehind 110 = .ok (.goto 4, 3) := by decide +kernel
theorem dX2_placeBehind_113 : decode cX2_placeBehind 113 = .ok (.iconst 5, 1) := by decide +kernel
theorem dX2_placeBehind_114 : decode cX2_placeBehind 114 = .ok (.ireturn, 1) := by decide +kernel
theorem dX2_lengthOf_0 : decode cX2_lengthOf 0 = .ok (.iload_n 0, 1) := by decide +kernel
theorem dX2_lengthOf_1 : decode cX2_lengthOf 1 = .ok (.bipush 107, 2) := by decide +kernel
theorem dX2_lengthOf_3 : decode cX2_lengthOf 3 = .ok (.if_icmp .ne 7, 3) := by decide +kernel
theorem dX2_lengthOf_6 : decode cX2_lengthOf 6 = .ok (.iconst 3, 1) := by decide +kernel
theorem dX2_lengthOf_7 : decode cX2_lengthOf 7 = .ok (.goto 4, 3) := by decide +kernel
theorem dX2_lengthOf_10 : decode cX2_lengthOf 10 = .ok (.iconst 2, 1) := by decide +kernel
theorem dX2_lengthOf_11 : decode cX2_lengthOf 11 = .ok (.ireturn, 1) := by decide +kernel
theorem dX3_init_0 : decode cX3_init 0 = .ok (.aload_n 0, 1) := by decide +kernel
theorem dX3_init_1 : decode cX3_init 1 = .ok (.invokespecial 3, 3) := by decide +kernel
theorem dX3_init_4 : decode cX3_init 4 = .ok (.aload_n 0, 1) := by decide +kernel
theorem dX3_init_5 : decode cX3_init 5 = .ok (.bipush 120, 2) := by decide +kernel
theorem dX3_init_7 : decode cX3_init 7 = .ok (.newarray .int, 2) := by decide +kernel
theorem dX3_init_9 : decode cX3_init 9 = .ok (.putfield 9, 3) := by decide +kernel
theorem dX3_init_12 : decode cX3_init 12 = .ok (.aload_n 0, 1) := by decide +kernel
theorem dX3_init_13 : decode cX3_init 13 = .ok (.bipush 120, 2) := by decide +kernel
theorem dX3_init_15 : decode cX3_init 15 = .ok (.newarray .int, 2) := by decide +kernel
theorem dX3_init_17 : decode cX3_init 17 = .ok (.putfield 15, 3) := by decide +kernel
theorem dX3_init_20 : decode cX3_init 20 = .ok (.aload_n 0, 1) := by decide +kernel
theorem dX3_init_21 : decode cX3_init 21 = .ok (.bipush 120, 2) := by decide +kernel
theorem dX3_init_23 : decode cX3_init 23 = .ok (.newarray .int, 2) := by decide +kernel
theorem dX3_init_25 : decode cX3_init 25 = .ok (.putfield 18, 3) := by decide +kernel
theorem dX3_init_28 : decode cX3_init 28 = .ok (.return_, 1) := by decide +kernel
theorem dX3_enter_0 : decode cX3_enter 0 = .ok (.aload_n 0, 1) := by decide +kernel
theorem dX3_enter_1 : decode cX3_enter 1 = .ok (.getfield 9, 3) := by decide +kernel
theorem dX3_enter_4 : decode cX3_enter 4 = .ok (.aload_n 0, 1) := by decide +kernel
theorem dX3_enter_5 : decode cX3_enter 5 = .ok (.getfield 21, 3) := by decide +kernel
theorem dX3_enter_8 : decode cX3_enter 8 = .ok (.iload_n 1, 1) := by decide +kernel
theorem dX3_enter_9 : decode cX3_enter 9 = .ok (.invokestatic 25, 3) := by decide +kernel
theorem dX3_enter_12 : decode cX3_enter 12 = .ok (.aload_n 0, 1) := by decide +kernel
theorem dX3_enter_13 : decode cX3_enter 13 = .ok (.getfield 15, 3) := by decide +kernel
theorem dX3_enter_16 : decode cX3_enter 16 = .ok (.aload_n 0, 1) := by decide +kernel
theorem dX3_enter_17 : decode cX3_enter 17 = .ok (.getfield 21, 3) := by decide +kernel
theorem dX3_enter_20 : decode cX3_enter 20 = .ok (.iconst 0, 1) := by decide +kernel
theorem dX3_enter_21 : decode cX3_enter 21 = .ok (.invokestatic 25, 3) := by decide +kernel
theorem dX3_enter_24 : decode cX3_enter 24 = .ok (.aload_n 0, 1) := by decide +kernel
theorem dX3_enter_25 : decode cX3_enter 25 = .ok (.getfield 18, 3) := by decide +kernel
theorem dX3_enter_28 : decode cX3_enter 28 = .ok (.aload_n 0, 1) := by decide +kernel
theorem dX3_enter_29 : decode cX3_enter 29 = .ok (.getfield 21, 3) := by decide +kernel
theorem dX3_enter_32 : decode cX3_enter 32 = .ok (.iconst (-1), 1) := by decide +kernel
theorem dX3_enter_33 : decode cX3_enter 33 = .ok (.invokestatic 25, 3) := by decide +kernel
theorem dX3_enter_36 : decode cX3_enter 36 = .ok (.aload_n 0, 1) := by decide +kernel
theorem dX3_enter_37 : decode cX3_enter 37 = .ok (.dup, 1) := by decide +kernel
theorem dX3_enter_38 : decode cX3_enter 38 = .ok (.getfield 21, 3) := by decide +kernel
theorem dX3_enter_41 : decode cX3_enter 41 = .ok (.iconst 1, 1) := by decide +kernel
theorem dX3_enter_42 : decode cX3_enter 42 = .ok (.iadd, 1) := by decide +kernel
theorem dX3_enter_43 : decode cX3_enter 43 = .ok (.putfield 21, 3) := by decide +kernel
theorem dX3_enter_46 : decode cX3_enter 46 = .ok (.return_, 1) := by decide +kernel
theorem dX3_node_0 : decode cX3_node 0 = .ok (.aload_n 0, 1) := by decide +kernel
theorem dX3_node_1 : decode cX3_node 1 = .ok (.getfield 9, 3) := by decide +kernel
theorem dX3_node_4 : decode cX3_node 4 = .ok (.aload_n 0, 1) := by decide +kernel
theorem dX3_node_5 : decode cX3_node 5 = .ok (.getfield 21, 3) := by decide +kernel
theorem dX3_node_8 : decode cX3_node 8 = .ok (.iconst 1, 1) := by decide +kernel
theorem dX3_node_9 : decode cX3_node 9 = .ok (.isub, 1) := by decide +kernel
theorem dX3_node_10 : decode cX3_node 10 = .ok (.invokestatic 29, 3) := by decide +kernel
theorem dX3_node_13 : decode cX3_node 13 = .ok (.ireturn, 1) := by decide +kernel
theorem dX3_takeStage_0 : decode cX3_takeStage 0 = .ok (.aload_n 0, 1) := by decide +kernel
theorem dX3_takeStage_1 : decode cX3_takeStage 1 = .ok (.getfield 15, 3) := by decide +kernel
theorem dX3_takeStage_4 : decode cX3_takeStage 4 = .ok (.aload_n 0, 1) := by decide +kernel
theorem dX3_takeStage_5 : decode cX3_takeStage 5 = .ok (.getfield 21, 3) := by decide +kernel
theorem dX3_takeStage_8 : decode cX3_takeStage 8 = .ok (.iconst 1, 1) := by decide +kernel
theorem dX3_takeStage_9 : decode cX3_takeStage 9 = .ok (.isub, 1) := by decide +kernel
theorem dX3_takeStage_10 : decode cX3_takeStage 10 = .ok (.invokestatic 29, 3) := by decide +kernel
theorem dX3_takeStage_13 : decode cX3_takeStage 13 = .ok (.istore_n 1, 1) := by decide +kernel
theorem dX3_takeStage_14 : decode cX3_takeStage 14 = .ok (.aload_n 0, 1) := by decide +kernel
theorem dX3_takeStage_15 : decode cX3_takeStage 15 = .ok (.getfield 15, 3) := by decide +kernel
theorem dX3_takeStage_18 : decode cX3_takeStage 18 = .ok (.aload_n 0, 1) := by decide +kernel
theorem dX3_takeStage_19 : decode cX3_takeStage 19 = .ok (.getfield 21, 3) := by decide +kernel
theorem dX3_takeStage_22 : decode cX3_takeStage 22 = .ok (.iconst 1, 1) := by decide +kernel
theorem dX3_takeStage_23 : decode cX3_takeStage 23 = .ok (.isub, 1) := by decide +kernel
theorem dX3_takeStage_24 : decode cX3_takeStage 24 = .ok (.iload_n 1, 1) := by decide +kernel
theorem dX3_takeStage_25 : decode cX3_takeStage 25 = .ok (.iconst 1, 1) := by decide +kernel
theorem dX3_takeStage_26 : decode cX3_takeStage 26 = .ok (.iadd, 1) := by decide +kernel
theorem dX3_takeStage_27 : decode cX3_takeStage 27 = .ok (.invokestatic 25, 3) := by decide +kernel
theorem dX3_takeStage_30 : decode cX3_takeStage 30 = .ok (.iload_n 1, 1) := by decide +kernel
theorem dX3_takeStage_31 : decode cX3_takeStage 31 = .ok (.ireturn, 1) := by decide +kernel
theorem dX3_hold_0 : decode cX3_hold 0 = .ok (.aload_n 0, 1) := by decide +kernel
theorem dX3_hold_1 : decode cX3_hold 1 = .ok (.getfield 18, 3) := by decide +kernel
theorem dX3_hold_4 : decode cX3_hold 4 = .ok (.aload_n 0, 1) := by decide +kernel
theorem dX3_hold_5 : decode cX3_hold 5 = .ok (.getfield 21, 3) := by decide +kernel
theorem dX3_hold_8 : decode cX3_hold 8 = .ok (.iconst 1, 1) := by decide +kernel
theorem dX3_hold_9 : decode cX3_hold 9 = .ok (.isub, 1) := by decide +kernel
theorem dX3_hold_10 : decode cX3_hold 10 = .ok (.iload_n 1, 1) := by decide +kernel
theorem dX3_hold_11 : decode cX3_hold 11 = .ok (.invokestatic 25, 3) := by decide +kernel
theorem dX3_hold_14 : decode cX3_hold 14 = .ok (.return_, 1) := by decide +kernel
theorem dX3_holding_0 : decode cX3_holding 0 = .ok (.aload_n 0, 1) := by decide +kernel
theorem dX3_holding_1 : decode cX3_holding 1 = .ok (.getfield 18, 3) := by decide +kernel
theorem dX3_holding_4 : decode cX3_holding 4 = .ok (.aload_n 0, 1) := by decide +kernel
theorem dX3_holding_5 : decode cX3_holding 5 = .ok (.getfield 21, 3) := by decide +kernel
theorem dX3_holding_8 : decode cX3_holding 8 = .ok (.iconst 1, 1) := by decide +kernel
theorem dX3_holding_9 : decode cX3_holding 9 = .ok (.isub, 1) := by decide +kernel
theorem dX3_holding_10 : decode cX3_holding 10 = .ok (.invokestatic 29, 3) := by decide +kernel
theorem dX3_holding_13 : decode cX3_holding 13 = .ok (.ireturn, 1) := by decide +kernel
theorem dX3_leave_0 : decode cX3_leave 0 = .ok (.aload_n 0, 1) := by decide +kernel
theorem dX3_leave_1 : decode cX3_leave 1 = .ok (.dup, 1) := by decide +kernel
theorem dX3_leave_2 : decode cX3_leave 2 = .ok (.getfield 21, 3) := by decide +kernel
theorem dX3_leave_5 : decode cX3_leave 5 = .ok (.iconst 1, 1) := by decide +kernel
theorem dX3_leave_6 : decode cX3_leave 6 = .ok (.isub, 1) := by decide +kernel
theorem dX3_leave_7 : decode cX3_leave 7 = .ok (.putfield 21, 3) := by decide +kernel
theorem dX3_leave_10 : decode cX3_leave 10 = .ok (.return_, 1) := by decide +kernel
theorem dX4_init_0 : decode cX4_init 0 = .ok (.aload_n 0, 1) := by decide +kernel
theorem dX4_init_1 : decode cX4_init 1 = .ok (.invokespecial 1, 3) := by decide +kernel
theorem dX4_init_4 : decode cX4_init 4 = .ok (.aload_n 0, 1) := by decide +kernel
theorem dX4_init_5 : decode cX4_init 5 = .ok (.iload_n 1, 1) := by decide +kernel
theorem dX4_init_6 : decode cX4_init 6 = .ok (.putfield 7, 3) := by decide +kernel
theorem dX4_init_9 : decode cX4_init 9 = .ok (.aload_n 0, 1) := by decide +kernel
theorem dX4_init_10 : decode cX4_init 10 = .ok (.iload_n 2, 1) := by decide +kernel
theorem dX4_init_11 : decode cX4_init 11 = .ok (.putfield 13, 3) := by decide +kernel
theorem dX4_init_14 : decode cX4_init 14 = .ok (.aload_n 0, 1) := by decide +kernel
theorem dX4_init_15 : decode cX4_init 15 = .ok (.aload_n 3, 1) := by decide +kernel
theorem dX4_init_16 : decode cX4_init 16 = .ok (.putfield 16, 3) := by decide +kernel
theorem dX4_init_19 : decode cX4_init 19 = .ok (.return_, 1) := by decide +kernel
theorem dX5_init_0 : decode cX5_init 0 = .ok (.aload_n 0, 1) := by decide +kernel
theorem dX5_init_1 : decode cX5_init 1 = .ok (.invokespecial 3, 3) := by decide +kernel
theorem dX5_init_4 : decode cX5_init 4 = .ok (.aload_n 0, 1) := by decide +kernel
theorem dX5_init_5 : decode cX5_init 5 = .ok (.iload_n 1, 1) := by decide +kernel
theorem dX5_init_6 : decode cX5_init 6 = .ok (.ifCond .ge 7, 3) := by decide +kernel
theorem dX5_init_9 : decode cX5_init 9 = .ok (.iconst 0, 1) := by decide +kernel
theorem dX5_init_10 : decode cX5_init 10 = .ok (.goto 4, 3) := by decide +kernel
theorem dX5_init_13 : decode cX5_init 13 = .ok (.iload_n 1, 1) := by decide +kernel
theorem dX5_init_14 : decode cX5_init 14 = .ok (.newarray .int, 2) := by decide +kernel
theorem dX5_init_16 : decode cX5_init 16 = .ok (.putfield 9, 3) := by decide +kernel
theorem dX5_init_19 : decode cX5_init 19 = .ok (.return_, 1) := by decide +kernel
theorem dX5_add_0 : decode cX5_add 0 = .ok (.aload_n 0, 1) := by decide +kernel
theorem dX5_add_1 : decode cX5_add 1 = .ok (.getfield 15, 3) := by decide +kernel
theorem dX5_add_4 : decode cX5_add 4 = .ok (.aload_n 0, 1) := by decide +kernel
theorem dX5_add_5 : decode cX5_add 5 = .ok (.getfield 9, 3) := by decide +kernel
theorem dX5_add_8 : decode cX5_add 8 = .ok (.arraylength, 1) := by decide +kernel
theorem dX5_add_9 : decode cX5_add 9 = .ok (.if_icmp .ge 25, 3) := by decide +kernel
theorem dX5_add_12 : decode cX5_add 12 = .ok (.aload_n 0, 1) := by decide +kernel
theorem dX5_add_13 : decode cX5_add 13 = .ok (.getfield 9, 3) := by decide +kernel
theorem dX5_add_16 : decode cX5_add 16 = .ok (.aload_n 0, 1) := by decide +kernel
theorem dX5_add_17 : decode cX5_add 17 = .ok (.getfield 15, 3) := by decide +kernel
theorem dX5_add_20 : decode cX5_add 20 = .ok (.iload_n 1, 1) := by decide +kernel
theorem dX5_add_21 : decode cX5_add 21 = .ok (.invokestatic 19, 3) := by decide +kernel
theorem dX5_add_24 : decode cX5_add 24 = .ok (.aload_n 0, 1) := by decide +kernel
theorem dX5_add_25 : decode cX5_add 25 = .ok (.dup, 1) := by decide +kernel
theorem dX5_add_26 : decode cX5_add 26 = .ok (.getfield 15, 3) := by decide +kernel
theorem dX5_add_29 : decode cX5_add 29 = .ok (.iconst 1, 1) := by decide +kernel
theorem dX5_add_30 : decode cX5_add 30 = .ok (.iadd, 1) := by decide +kernel
theorem dX5_add_31 : decode cX5_add 31 = .ok (.putfield 15, 3) := by decide +kernel
theorem dX5_add_34 : decode cX5_add 34 = .ok (.return_, 1) := by decide +kernel
theorem dX5_sign_0 : decode cX5_sign 0 = .ok (.iload_n 1, 1) := by decide +kernel
theorem dX5_sign_1 : decode cX5_sign 1 = .ok (.aload_n 0, 1) := by decide +kernel
theorem dX5_sign_2 : decode cX5_sign 2 = .ok (.getfield 15, 3) := by decide +kernel
theorem dX5_sign_5 : decode cX5_sign 5 = .ok (.if_icmp .ge 14, 3) := by decide +kernel
theorem dX5_sign_8 : decode cX5_sign 8 = .ok (.aload_n 0, 1) := by decide +kernel
theorem dX5_sign_9 : decode cX5_sign 9 = .ok (.getfield 9, 3) := by decide +kernel
theorem dX5_sign_12 : decode cX5_sign 12 = .ok (.iload_n 1, 1) := by decide +kernel
theorem dX5_sign_13 : decode cX5_sign 13 = .ok (.invokestatic 23, 3) := by decide +kernel
theorem dX5_sign_16 : decode cX5_sign 16 = .ok (.goto 4, 3) := by decide +kernel
theorem dX5_sign_19 : decode cX5_sign 19 = .ok (.iconst (-1), 1) := by decide +kernel
theorem dX5_sign_20 : decode cX5_sign 20 = .ok (.ireturn, 1) := by decide +kernel
theorem dX5_copy_0 : decode cX5_copy 0 = .ok (.new 10, 3) := by decide +kernel
theorem dX5_copy_3 : decode cX5_copy 3 = .ok (.dup, 1) := by decide +kernel
theorem dX5_copy_4 : decode cX5_copy 4 = .ok (.aload_n 0, 1) := by decide +kernel
theorem dX5_copy_5 : decode cX5_copy 5 = .ok (.getfield 15, 3) := by decide +kernel
theorem dX5_copy_8 : decode cX5_copy 8 = .ok (.invokespecial 27, 3) := by decide +kernel
theorem dX5_copy_11 : decode cX5_copy 11 = .ok (.astore_n 1, 1) := by decide +kernel
theorem dX5_copy_12 : decode cX5_copy 12 = .ok (.iconst 0, 1) := by decide +kernel
theorem dX5_copy_13 : decode cX5_copy 13 = .ok (.istore_n 2, 1) := by decide +kernel
theorem dX5_copy_14 : decode cX5_copy 14 = .ok (.iload_n 2, 1) := by decide +kernel
theorem dX5_copy_15 : decode cX5_copy 15 = .ok (.aload_n 0, 1) := by decide +kernel
theorem dX5_copy_16 : decode cX5_copy 16 = .ok (.getfield 15, 3) := by decide +kernel
theorem dX5_copy_19 : decode cX5_copy 19 = .ok (.if_icmp .ge 18, 3) := by decide +kernel
theorem dX5_copy_22 : decode cX5_copy 22 = .ok (.aload_n 1, 1) := by decide +kernel
theorem dX5_copy_23 : decode cX5_copy 23 = .ok (.aload_n 0, 1) := by decide +kernel
theorem dX5_copy_24 : decode cX5_copy 24 = .ok (.iload_n 2, 1) := by decide +kernel
theorem dX5_copy_25 : decode cX5_copy 25 = .ok (.invokevirtual 30, 3) := by decide +kernel
theorem dX5_copy_28 : decode cX5_copy 28 = .ok (.invokevirtual 34, 3) := by decide +kernel
theorem dX5_copy_31 : decode cX5_copy 31 = .ok (.iinc 2 1, 3) := by decide +kernel
theorem dX5_copy_34 : decode cX5_copy 34 = .ok (.goto (-20), 3) := by decide +kernel
theorem dX5_copy_37 : decode cX5_copy 37 = .ok (.aload_n 1, 1) := by decide +kernel
theorem dX5_copy_38 : decode cX5_copy 38 = .ok (.areturn, 1) := by decide +kernel
theorem dX5_measure_0 : decode cX5_measure 0 = .ok (.iload_n 1, 1) := by decide +kernel
theorem dX5_measure_1 : decode cX5_measure 1 = .ok (.tableswitch 51 0 3 #[31, 36, 41, 46], 31) := by decide +kernel
theorem dX5_measure_32 : decode cX5_measure 32 = .ok (.aload_n 0, 1) := by decide +kernel
theorem dX5_measure_33 : decode cX5_measure 33 = .ok (.getfield 15, 3) := by decide +kernel
theorem dX5_measure_36 : decode cX5_measure 36 = .ok (.ireturn, 1) := by decide +kernel
theorem dX5_measure_37 : decode cX5_measure 37 = .ok (.aload_n 0, 1) := by decide +kernel
theorem dX5_measure_38 : decode cX5_measure 38 = .ok (.invokevirtual 37, 3) := by decide +kernel
theorem dX5_measure_41 : decode cX5_measure 41 = .ok (.ireturn, 1) := by decide +kernel
theorem dX5_measure_42 : decode cX5_measure 42 = .ok (.aload_n 0, 1) := by decide +kernel
theorem dX5_measure_43 : decode cX5_measure 43 = .ok (.invokevirtual 41, 3) := by decide +kernel
theorem dX5_measure_46 : decode cX5_measure 46 = .ok (.ireturn, 1) := by decide +kernel
theorem dX5_measure_47 : decode cX5_measure 47 = .ok (.aload_n 0, 1) := by decide +kernel
theorem dX5_measure_48 : decode cX5_measure 48 = .ok (.invokevirtual 44, 3) := by decide +kernel
theorem dX5_measure_51 : decode cX5_measure 51 = .ok (.ireturn, 1) := by decide +kernel
theorem dX5_measure_52 : decode cX5_measure 52 = .ok (.aload_n 0, 1) := by decide +kernel
theorem dX5_measure_53 : decode cX5_measure 53 = .ok (.invokevirtual 47, 3) := by decide +kernel
theorem dX5_measure_56 : decode cX5_measure 56 = .ok (.ireturn, 1) := by decide +kernel
theorem dX5_arrows_0 : decode cX5_arrows 0 = .ok (.iconst 0, 1) := by decide +kernel
theorem dX5_arrows_1 : decode cX5_arrows 1 = .ok (.istore_n 1, 1) := by decide +kernel
theorem dX5_arrows_2 : decode cX5_arrows 2 = .ok (.iconst 0, 1) := by decide +kernel
theorem dX5_arrows_3 : decode cX5_arrows 3 = .ok (.istore_n 2, 1) := by decide +kernel
theorem dX5_arrows_4 : decode cX5_arrows 4 = .ok (.iload_n 2, 1) := by decide +kernel
theorem dX5_arrows_5 : decode cX5_arrows 5 = .ok (.aload_n 0, 1) := by decide +kernel
theorem dX5_arrows_6 : decode cX5_arrows 6 = .ok (.getfield 15, 3) := by decide +kernel
theorem dX5_arrows_9 : decode cX5_arrows 9 = .ok (.if_icmp .ge 21, 3) := by decide +kernel
theorem dX5_arrows_12 : decode cX5_arrows 12 = .ok (.aload_n 0, 1) := by decide +kernel
theorem dX5_arrows_13 : decode cX5_arrows 13 = .ok (.iload_n 2, 1) := by decide +kernel
theorem dX5_arrows_14 : decode cX5_arrows 14 = .ok (.invokevirtual 30, 3) := by decide +kernel
theorem dX5_arrows_17 : decode cX5_arrows 17 = .ok (.iconst 2, 1) := by decide +kernel
theorem dX5_arrows_18 : decode cX5_arrows 18 = .ok (.if_icmp .ne 6, 3) := by decide +kernel
theorem dX5_arrows_21 : decode cX5_arrows 21 = .ok (.iinc 1 1, 3) := by decide +kernel
theorem dX5_arrows_24 : decode cX5_arrows 24 = .ok (.iinc 2 1, 3) := by decide +kernel
theorem dX5_arrows_27 : decode cX5_arrows 27 = .ok (.goto (-23), 3) := by decide +kernel
theorem dX5_arrows_30 : decode cX5_arrows 30 = .ok (.iload_n 1, 1) := by decide +kernel
theorem dX5_arrows_31 : decode cX5_arrows 31 = .ok (.ireturn, 1) := by decide +kernel
theorem dX5_variables_0 : decode cX5_variables 0 = .ok (.iconst 0, 1) := by decide +kernel
theorem dX5_variables_1 : decode cX5_variables 1 = .ok (.istore_n 1, 1) := by decide +kernel
theorem dX5_variables_2 : decode cX5_variables 2 = .ok (.iconst 0, 1) := by decide +kernel
theorem dX5_variables_3 : decode cX5_variables 3 = .ok (.istore_n 2, 1) := by decide +kernel
theorem dX5_variables_4 : decode cX5_variables 4 = .ok (.iload_n 2, 1) := by decide +kernel
theorem dX5_variables_5 : decode cX5_variables 5 = .ok (.aload_n 0, 1) := by decide +kernel
theorem dX5_variables_6 : decode cX5_variables 6 = .ok (.getfield 15, 3) := by decide +kernel
theorem dX5_variables_9 : decode cX5_variables 9 = .ok (.if_icmp .ge 23, 3) := by decide +kernel
theorem dX5_variables_12 : decode cX5_variables 12 = .ok (.iload_n 1, 1) := by decide +kernel
theorem dX5_variables_13 : decode cX5_variables 13 = .ok (.aload_n 0, 1) := by decide +kernel
theorem dX5_variables_14 : decode cX5_variables 14 = .ok (.iload_n 2, 1) := by decide +kernel
theorem dX5_variables_15 : decode cX5_variables 15 = .ok (.invokevirtual 30, 3) := by decide +kernel
theorem dX5_variables_18 : decode cX5_variables 18 = .ok (.iconst 3, 1) := by decide +kernel
theorem dX5_variables_19 : decode cX5_variables 19 = .ok (.isub, 1) := by decide +kernel
theorem dX5_variables_20 : decode cX5_variables 20 = .ok (.iconst 1, 1) := by decide +kernel
theorem dX5_variables_21 : decode cX5_variables 21 = .ok (.iadd, 1) := by decide +kernel
theorem dX5_variables_22 : decode cX5_variables 22 = .ok (.invokestatic 50, 3) := by decide +kernel
theorem dX5_variables_25 : decode cX5_variables 25 = .ok (.istore_n 1, 1) := by decide +kernel
theorem dX5_variables_26 : decode cX5_variables 26 = .ok (.iinc 2 1, 3) := by decide +kernel
theorem dX5_variables_29 : decode cX5_variables 29 = .ok (.goto (-25), 3) := by decide +kernel
theorem dX5_variables_32 : decode cX5_variables 32 = .ok (.iload_n 1, 1) := by decide +kernel
theorem dX5_variables_33 : decode cX5_variables 33 = .ok (.ireturn, 1) := by decide +kernel
theorem dX5_order_0 : decode cX5_order 0 = .ok (.iconst 0, 1) := by decide +kernel
theorem dX5_order_1 : decode cX5_order 1 = .ok (.istore_n 1, 1) := by decide +kernel
theorem dX5_order_2 : decode cX5_order 2 = .ok (.iconst 0, 1) := by decide +kernel
theorem dX5_order_3 : decode cX5_order 3 = .ok (.istore_n 2, 1) := by decide +kernel
theorem dX5_order_4 : decode cX5_order 4 = .ok (.iconst 0, 1) := by decide +kernel
theorem dX5_order_5 : decode cX5_order 5 = .ok (.istore_n 3, 1) := by decide +kernel
theorem dX5_order_6 : decode cX5_order 6 = .ok (.iload_n 3, 1) := by decide +kernel
theorem dX5_order_7 : decode cX5_order 7 = .ok (.aload_n 0, 1) := by decide +kernel
theorem dX5_order_8 : decode cX5_order 8 = .ok (.getfield 15, 3) := by decide +kernel
theorem dX5_order_11 : decode cX5_order 11 = .ok (.if_icmp .ge 32, 3) := by decide +kernel
theorem dX5_order_14 : decode cX5_order 14 = .ok (.iload_n 1, 1) := by decide +kernel
theorem dX5_order_15 : decode cX5_order 15 = .ok (.aload_n 0, 1) := by decide +kernel
theorem dX5_order_16 : decode cX5_order 16 = .ok (.iload_n 3, 1) := by decide +kernel
theorem dX5_order_17 : decode cX5_order 17 = .ok (.invokevirtual 30, 3) := by decide +kernel
theorem dX5_order_20 : decode cX5_order 20 = .ok (.iconst 2, 1) := by decide +kernel
theorem dX5_order_21 : decode cX5_order 21 = .ok (.if_icmp .ne 7, 3) := by decide +kernel
theorem dX5_order_24 : decode cX5_order 24 = .ok (.iconst 1, 1) := by decide +kernel
theorem dX5_order_25 : decode cX5_order 25 = .ok (.goto 4, 3) := by decide +kernel
theorem dX5_order_28 : decode cX5_order 28 = .ok (.iconst (-1), 1) := by decide +kernel
theorem dX5_order_29 : decode cX5_order 29 = .ok (.iadd, 1) := by decide +kernel
theorem dX5_order_30 : decode cX5_order 30 = .ok (.istore_n 1, 1) := by decide +kernel
theorem dX5_order_31 : decode cX5_order 31 = .ok (.iload_n 2, 1) := by decide +kernel
theorem dX5_order_32 : decode cX5_order 32 = .ok (.iload_n 1, 1) := by decide +kernel
theorem dX5_order_33 : decode cX5_order 33 = .ok (.invokestatic 50, 3) := by decide +kernel
theorem dX5_order_36 : decode cX5_order 36 = .ok (.istore_n 2, 1) := by decide +kernel
theorem dX5_order_37 : decode cX5_order 37 = .ok (.iinc 3 1, 3) := by decide +kernel
theorem dX5_order_40 : decode cX5_order 40 = .ok (.goto (-34), 3) := by decide +kernel
theorem dX5_order_43 : decode cX5_order 43 = .ok (.iload_n 2, 1) := by decide +kernel
theorem dX5_order_44 : decode cX5_order 44 = .ok (.ireturn, 1) := by decide +kernel
theorem dX5_places_0 : decode cX5_places 0 = .ok (.iconst 0, 1) := by decide +kernel
theorem dX5_places_1 : decode cX5_places 1 = .ok (.istore_n 1, 1) := by decide +kernel
theorem dX5_places_2 : decode cX5_places 2 = .ok (.iconst 0, 1) := by decide +kernel
theorem dX5_places_3 : decode cX5_places 3 = .ok (.istore_n 2, 1) := by decide +kernel
theorem dX5_places_4 : decode cX5_places 4 = .ok (.iconst 0, 1) := by decide +kernel
theorem dX5_places_5 : decode cX5_places 5 = .ok (.istore_n 3, 1) := by decide +kernel
theorem dX5_places_6 : decode cX5_places 6 = .ok (.iload_n 3, 1) := by decide +kernel
theorem dX5_places_7 : decode cX5_places 7 = .ok (.aload_n 0, 1) := by decide +kernel
theorem dX5_places_8 : decode cX5_places 8 = .ok (.getfield 15, 3) := by decide +kernel
theorem dX5_places_11 : decode cX5_places 11 = .ok (.if_icmp .ge 39, 3) := by decide +kernel
theorem dX5_places_14 : decode cX5_places 14 = .ok (.aload_n 0, 1) := by decide +kernel
theorem dX5_places_15 : decode cX5_places 15 = .ok (.iload_n 3, 1) := by decide +kernel
theorem dX5_places_16 : decode cX5_places 16 = .ok (.invokevirtual 30, 3) := by decide +kernel
theorem dX5_places_19 : decode cX5_places 19 = .ok (.iconst 2, 1) := by decide +kernel
theorem dX5_places_20 : decode cX5_places 20 = .ok (.if_icmp .ne 21, 3) := by decide +kernel
theorem dX5_places_23 : decode cX5_places 23 = .ok (.iload_n 2, 1) := by decide +kernel
theorem dX5_places_24 : decode cX5_places 24 = .ok (.iload_n 1, 1) := by decide +kernel
theorem dX5_places_25 : decode cX5_places 25 = .ok (.ifCond .ne 7, 3) := by decide +kernel
theorem dX5_places_28 : decode cX5_places 28 = .ok (.iconst 1, 1) := by decide +kernel
theorem dX5_places_29 : decode cX5_places 29 = .ok (.goto 4, 3) := by decide +kernel
theorem dX5_places_32 : decode cX5_places 32 = .ok (.iconst 0, 1) := by decide +kernel
theorem dX5_places_33 : decode cX5_places 33 = .ok (.iadd, 1) := by decide +kernel
theorem dX5_places_34 : decode cX5_places 34 = .ok (.istore_n 2, 1) := by decide +kernel
theorem dX5_places_35 : decode cX5_places 35 = .ok (.iinc 1 1, 3) := by decide +kernel
theorem dX5_places_38 : decode cX5_places 38 = .ok (.goto 6, 3) := by decide +kernel
theorem dX5_places_41 : decode cX5_places 41 = .ok (.iinc 1 (-1), 3) := by decide +kernel
theorem dX5_places_44 : decode cX5_places 44 = .ok (.iinc 3 1, 3) := by decide +kernel
theorem dX5_places_47 : decode cX5_places 47 = .ok (.goto (-41), 3) := by decide +kernel
theorem dX5_places_50 : decode cX5_places 50 = .ok (.iload_n 2, 1) := by decide +kernel
theorem dX5_places_51 : decode cX5_places 51 = .ok (.ireturn, 1) := by decide +kernel
theorem dX5_isSame_0 : decode cX5_isSame 0 = .ok (.aload_n 0, 1) := by decide +kernel
theorem dX5_isSame_1 : decode cX5_isSame 1 = .ok (.getfield 15, 3) := by decide +kernel
theorem dX5_isSame_4 : decode cX5_isSame 4 = .ok (.aload_n 1, 1) := by decide +kernel
theorem dX5_isSame_5 : decode cX5_isSame 5 = .ok (.getfield 15, 3) := by decide +kernel
theorem dX5_isSame_8 : decode cX5_isSame 8 = .ok (.if_icmp .eq 5, 3) := by decide +kernel
theorem dX5_isSame_11 : decode cX5_isSame 11 = .ok (.iconst 0, 1) := by decide +kernel
theorem dX5_isSame_12 : decode cX5_isSame 12 = .ok (.ireturn, 1) := by decide +kernel
theorem dX5_isSame_13 : decode cX5_isSame 13 = .ok (.iconst 0, 1) := by decide +kernel
theorem dX5_isSame_14 : decode cX5_isSame 14 = .ok (.istore_n 2, 1) := by decide +kernel
theorem dX5_isSame_15 : decode cX5_isSame 15 = .ok (.iload_n 2, 1) := by decide +kernel
theorem dX5_isSame_16 : decode cX5_isSame 16 = .ok (.aload_n 0, 1) := by decide +kernel
theorem dX5_isSame_17 : decode cX5_isSame 17 = .ok (.getfield 15, 3) := by decide +kernel
theorem dX5_isSame_20 : decode cX5_isSame 20 = .ok (.if_icmp .ge 24, 3) := by decide +kernel
theorem dX5_isSame_23 : decode cX5_isSame 23 = .ok (.aload_n 0, 1) := by decide +kernel
theorem dX5_isSame_24 : decode cX5_isSame 24 = .ok (.iload_n 2, 1) := by decide +kernel
theorem dX5_isSame_25 : decode cX5_isSame 25 = .ok (.invokevirtual 30, 3) := by decide +kernel
theorem dX5_isSame_28 : decode cX5_isSame 28 = .ok (.aload_n 1, 1) := by decide +kernel
theorem dX5_isSame_29 : decode cX5_isSame 29 = .ok (.iload_n 2, 1) := by decide +kernel
theorem dX5_isSame_30 : decode cX5_isSame 30 = .ok (.invokevirtual 30, 3) := by decide +kernel
theorem dX5_isSame_33 : decode cX5_isSame 33 = .ok (.if_icmp .eq 5, 3) := by decide +kernel
theorem dX5_isSame_36 : decode cX5_isSame 36 = .ok (.iconst 0, 1) := by decide +kernel
theorem dX5_isSame_37 : decode cX5_isSame 37 = .ok (.ireturn, 1) := by decide +kernel
theorem dX5_isSame_38 : decode cX5_isSame 38 = .ok (.iinc 2 1, 3) := by decide +kernel
theorem dX5_isSame_41 : decode cX5_isSame 41 = .ok (.goto (-26), 3) := by decide +kernel
theorem dX5_isSame_44 : decode cX5_isSame 44 = .ok (.iconst 1, 1) := by decide +kernel
theorem dX5_isSame_45 : decode cX5_isSame 45 = .ok (.ireturn, 1) := by decide +kernel
theorem dX5_becomes_0 : decode cX5_becomes 0 = .ok (.aload_n 0, 1) := by decide +kernel
theorem dX5_becomes_1 : decode cX5_becomes 1 = .ok (.invokevirtual 41, 3) := by decide +kernel
theorem dX5_becomes_4 : decode cX5_becomes 4 = .ok (.newarray .int, 2) := by decide +kernel
theorem dX5_becomes_6 : decode cX5_becomes 6 = .ok (.astore_n 2, 1) := by decide +kernel
theorem dX5_becomes_7 : decode cX5_becomes 7 = .ok (.aload_n 2, 1) := by decide +kernel
theorem dX5_becomes_8 : decode cX5_becomes 8 = .ok (.iconst (-1), 1) := by decide +kernel
theorem dX5_becomes_9 : decode cX5_becomes 9 = .ok (.invokestatic 56, 3) := by decide +kernel
theorem dX5_becomes_12 : decode cX5_becomes 12 = .ok (.iconst 0, 1) := by decide +kernel
theorem dX5_becomes_13 : decode cX5_becomes 13 = .ok (.istore_n 3, 1) := by decide +kernel
theorem dX5_becomes_14 : decode cX5_becomes 14 = .ok (.iconst 0, 1) := by decide +kernel
theorem dX5_becomes_15 : decode cX5_becomes 15 = .ok (.istore 4, 2) := by decide +kernel
theorem dX5_becomes_17 : decode cX5_becomes 17 = .ok (.iload 4, 2) := by decide +kernel
theorem dX5_becomes_19 : decode cX5_becomes 19 = .ok (.aload_n 0, 1) := by decide +kernel
theorem dX5_becomes_20 : decode cX5_becomes 20 = .ok (.getfield 15, 3) := by decide +kernel
theorem dX5_becomes_23 : decode cX5_becomes 23 = .ok (.if_icmp .ge 84, 3) := by decide +kernel
theorem dX5_becomes_26 : decode cX5_becomes 26 = .ok (.aload_n 0, 1) := by decide +kernel
theorem dX5_becomes_27 : decode cX5_becomes 27 = .ok (.iload 4, 2) := by decide +kernel
theorem dX5_becomes_29 : decode cX5_becomes 29 = .ok (.invokevirtual 30, 3) := by decide +kernel
theorem dX5_becomes_32 : decode cX5_becomes 32 = .ok (.iconst 3, 1) := by decide +kernel
theorem dX5_becomes_33 : decode cX5_becomes 33 = .ok (.isub, 1) := by decide +kernel
theorem dX5_becomes_34 : decode cX5_becomes 34 = .ok (.istore 5, 2) := by decide +kernel
theorem dX5_becomes_36 : decode cX5_becomes 36 = .ok (.iload 5, 2) := by decide +kernel
theorem dX5_becomes_38 : decode cX5_becomes 38 = .ok (.ifCond .ge 25, 3) := by decide +kernel
theorem dX5_becomes_41 : decode cX5_becomes 41 = .ok (.aload_n 0, 1) := by decide +kernel
theorem dX5_becomes_42 : decode cX5_becomes 42 = .ok (.iload 4, 2) := by decide +kernel
theorem dX5_becomes_44 : decode cX5_becomes 44 = .ok (.invokevirtual 30, 3) := by decide +kernel
theorem dX5_becomes_47 : decode cX5_becomes 47 = .ok (.aload_n 1, 1) := by decide +kernel
theorem dX5_becomes_48 : decode cX5_becomes 48 = .ok (.iload_n 3, 1) := by decide +kernel
theorem dX5_becomes_49 : decode cX5_becomes 49 = .ok (.invokevirtual 30, 3) := by decide +kernel
theorem dX5_becomes_52 : decode cX5_becomes 52 = .ok (.if_icmp .eq 5, 3) := by decide +kernel
theorem dX5_becomes_55 : decode cX5_becomes 55 = .ok (.iconst 0, 1) := by decide +kernel
theorem dX5_becomes_56 : decode cX5_becomes 56 = .ok (.ireturn, 1) := by decide +kernel
theorem dX5_becomes_57 : decode cX5_becomes 57 = .ok (.iinc 3 1, 3) := by decide +kernel
theorem dX5_becomes_60 : decode cX5_becomes 60 = .ok (.goto 41, 3) := by decide +kernel
theorem dX5_becomes_63 : decode cX5_becomes 63 = .ok (.aload_n 2, 1) := by decide +kernel
theorem dX5_becomes_64 : decode cX5_becomes 64 = .ok (.iload 5, 2) := by decide +kernel
theorem dX5_becomes_66 : decode cX5_becomes 66 = .ok (.invokestatic 23, 3) := by decide +kernel
theorem dX5_becomes_69 : decode cX5_becomes 69 = .ok (.ifCond .ge 10, 3) := by decide +kernel
theorem dX5_becomes_72 : decode cX5_becomes 72 = .ok (.aload_n 2, 1) := by decide +kernel
theorem dX5_becomes_73 : decode cX5_becomes 73 = .ok (.iload 5, 2) := by decide +kernel
theorem dX5_becomes_75 : decode cX5_becomes 75 = .ok (.iload_n 3, 1) := by decide +kernel
theorem dX5_becomes_76 : decode cX5_becomes 76 = .ok (.invokestatic 19, 3) := by decide +kernel
theorem dX5_becomes_79 : decode cX5_becomes 79 = .ok (.aload_n 1, 1) := by decide +kernel
theorem dX5_becomes_80 : decode cX5_becomes 80 = .ok (.aload_n 2, 1) := by decide +kernel
theorem dX5_becomes_81 : decode cX5_becomes 81 = .ok (.iload 5, 2) := by decide +kernel
theorem dX5_becomes_83 : decode cX5_becomes 83 = .ok (.invokestatic 23, 3) := by decide +kernel
theorem dX5_becomes_86 : decode cX5_becomes 86 = .ok (.iload_n 3, 1) := by decide +kernel
theorem dX5_becomes_87 : decode cX5_becomes 87 = .ok (.invokevirtual 62, 3) := by decide +kernel
theorem dX5_becomes_90 : decode cX5_becomes 90 = .ok (.ifCond .ne 5, 3) := by decide +kernel
theorem dX5_becomes_93 : decode cX5_becomes 93 = .ok (.iconst 0, 1) := by decide +kernel
theorem dX5_becomes_94 : decode cX5_becomes 94 = .ok (.ireturn, 1) := by decide +kernel
theorem dX5_becomes_95 : decode cX5_becomes 95 = .ok (.aload_n 1, 1) := by decide +kernel
theorem dX5_becomes_96 : decode cX5_becomes 96 = .ok (.iload_n 3, 1) := by decide +kernel
theorem dX5_becomes_97 : decode cX5_becomes 97 = .ok (.invokevirtual 66, 3) := by decide +kernel
theorem dX5_becomes_100 : decode cX5_becomes 100 = .ok (.istore_n 3, 1) := by decide +kernel
theorem dX5_becomes_101 : decode cX5_becomes 101 = .ok (.iinc 4 1, 3) := by decide +kernel
theorem dX5_becomes_104 : decode cX5_becomes 104 = .ok (.goto (-87), 3) := by decide +kernel
theorem dX5_becomes_107 : decode cX5_becomes 107 = .ok (.iconst 1, 1) := by decide +kernel
theorem dX5_becomes_108 : decode cX5_becomes 108 = .ok (.ireturn, 1) := by decide +kernel
theorem dX5_isRepeated_0 : decode cX5_isRepeated 0 = .ok (.aload_n 0, 1) := by decide +kernel
theorem dX5_isRepeated_1 : decode cX5_isRepeated 1 = .ok (.iload_n 1, 1) := by decide +kernel
theorem dX5_isRepeated_2 : decode cX5_isRepeated 2 = .ok (.invokevirtual 66, 3) := by decide +kernel
theorem dX5_isRepeated_5 : decode cX5_isRepeated 5 = .ok (.iload_n 1, 1) := by decide +kernel
theorem dX5_isRepeated_6 : decode cX5_isRepeated 6 = .ok (.isub, 1) := by decide +kernel
theorem dX5_isRepeated_7 : decode cX5_isRepeated 7 = .ok (.istore_n 3, 1) := by decide +kernel
theorem dX5_isRepeated_8 : decode cX5_isRepeated 8 = .ok (.iconst 0, 1) := by decide +kernel
theorem dX5_isRepeated_9 : decode cX5_isRepeated 9 = .ok (.istore 4, 2) := by decide +kernel
theorem dX5_isRepeated_11 : decode cX5_isRepeated 11 = .ok (.iload 4, 2) := by decide +kernel
theorem dX5_isRepeated_13 : decode cX5_isRepeated 13 = .ok (.iload_n 3, 1) := by decide +kernel
theorem dX5_isRepeated_14 : decode cX5_isRepeated 14 = .ok (.if_icmp .ge 30, 3) := by decide +kernel
theorem dX5_isRepeated_17 : decode cX5_isRepeated 17 = .ok (.aload_n 0, 1) := by decide +kernel
theorem dX5_isRepeated_18 : decode cX5_isRepeated 18 = .ok (.iload_n 1, 1) := by decide +kernel
theorem dX5_isRepeated_19 : decode cX5_isRepeated 19 = .ok (.iload 4, 2) := by decide +kernel
theorem dX5_isRepeated_21 : decode cX5_isRepeated 21 = .ok (.iadd, 1) := by decide +kernel
theorem dX5_isRepeated_22 : decode cX5_isRepeated 22 = .ok (.invokevirtual 30, 3) := by decide +kernel
theorem dX5_isRepeated_25 : decode cX5_isRepeated 25 = .ok (.aload_n 0, 1) := by decide +kernel
theorem dX5_isRepeated_26 : decode cX5_isRepeated 26 = .ok (.iload_n 2, 1) := by decide +kernel
theorem dX5_isRepeated_27 : decode cX5_isRepeated 27 = .ok (.iload 4, 2) := by decide +kernel
theorem dX5_isRepeated_29 : decode cX5_isRepeated 29 = .ok (.iadd, 1) := by decide +kernel
theorem dX5_isRepeated_30 : decode cX5_isRepeated 30 = .ok (.invokevirtual 30, 3) := by decide +kernel
theorem dX5_isRepeated_33 : decode cX5_isRepeated 33 = .ok (.if_icmp .eq 5, 3) := by decide +kernel
theorem dX5_isRepeated_36 : decode cX5_isRepeated 36 = .ok (.iconst 0, 1) := by decide +kernel
theorem dX5_isRepeated_37 : decode cX5_isRepeated 37 = .ok (.ireturn, 1) := by decide +kernel
theorem dX5_isRepeated_38 : decode cX5_isRepeated 38 = .ok (.iinc 4 1, 3) := by decide +kernel
theorem dX5_isRepeated_41 : decode cX5_isRepeated 41 = .ok (.goto (-30), 3) := by decide +kernel
theorem dX5_isRepeated_44 : decode cX5_isRepeated 44 = .ok (.iconst 1, 1) := by decide +kernel
theorem dX5_isRepeated_45 : decode cX5_isRepeated 45 = .ok (.ireturn, 1) := by decide +kernel
theorem dX5_endOf_0 : decode cX5_endOf 0 = .ok (.iconst 1, 1) := by decide +kernel
theorem dX5_endOf_1 : decode cX5_endOf 1 = .ok (.istore_n 2, 1) := by decide +kernel
theorem dX5_endOf_2 : decode cX5_endOf 2 = .ok (.iload_n 1, 1) := by decide +kernel
theorem dX5_endOf_3 : decode cX5_endOf 3 = .ok (.istore_n 3, 1) := by decide +kernel
theorem dX5_endOf_4 : decode cX5_endOf 4 = .ok (.iload_n 2, 1) := by decide +kernel
theorem dX5_endOf_5 : decode cX5_endOf 5 = .ok (.ifCond .le 34, 3) := by decide +kernel
theorem dX5_endOf_8 : decode cX5_endOf 8 = .ok (.iload_n 3, 1) := by decide +kernel
theorem dX5_endOf_9 : decode cX5_endOf 9 = .ok (.aload_n 0, 1) := by decide +kernel
theorem dX5_endOf_10 : decode cX5_endOf 10 = .ok (.getfield 15, 3) := by decide +kernel
theorem dX5_endOf_13 : decode cX5_endOf 13 = .ok (.if_icmp .ge 26, 3) := by decide +kernel
theorem dX5_endOf_16 : decode cX5_endOf 16 = .ok (.iload_n 2, 1) := by decide +kernel
theorem dX5_endOf_17 : decode cX5_endOf 17 = .ok (.aload_n 0, 1) := by decide +kernel
theorem dX5_endOf_18 : decode cX5_endOf 18 = .ok (.iload_n 3, 1) := by decide +kernel
theorem dX5_endOf_19 : decode cX5_endOf 19 = .ok (.invokevirtual 30, 3) := by decide +kernel
theorem dX5_endOf_22 : decode cX5_endOf 22 = .ok (.iconst 2, 1) := by decide +kernel
theorem dX5_endOf_23 : decode cX5_endOf 23 = .ok (.if_icmp .ne 7, 3) := by decide +kernel
theorem dX5_endOf_26 : decode cX5_endOf 26 = .ok (.iconst 1, 1) := by decide +kernel
theorem dX5_endOf_27 : decode cX5_endOf 27 = .ok (.goto 4, 3) := by decide +kernel
theorem dX5_endOf_30 : decode cX5_endOf 30 = .ok (.iconst (-1), 1) := by decide +kernel
theorem dX5_endOf_31 : decode cX5_endOf 31 = .ok (.iadd, 1) := by decide +kernel
theorem dX5_endOf_32 : decode cX5_endOf 32 = .ok (.istore_n 2, 1) := by decide +kernel
theorem dX5_endOf_33 : decode cX5_endOf 33 = .ok (.iinc 3 1, 3) := by decide +kernel
theorem dX5_endOf_36 : decode cX5_endOf 36 = .ok (.goto (-32), 3) := by decide +kernel
theorem dX5_endOf_39 : decode cX5_endOf 39 = .ok (.iload_n 3, 1) := by decide +kernel
theorem dX5_endOf_40 : decode cX5_endOf 40 = .ok (.ireturn, 1) := by decide +kernel
theorem dX5_write_0 : decode cX5_write 0 = .ok (.iconst 0, 1) := by decide +kernel
theorem dX5_write_1 : decode cX5_write 1 = .ok (.istore_n 2, 1) := by decide +kernel
theorem dX5_write_2 : decode cX5_write 2 = .ok (.iconst 0, 1) := by decide +kernel
theorem dX5_write_3 : decode cX5_write 3 = .ok (.istore_n 3, 1) := by decide +kernel
theorem dX5_write_4 : decode cX5_write 4 = .ok (.iload_n 3, 1) := by decide +kernel
theorem dX5_write_5 : decode cX5_write 5 = .ok (.aload_n 0, 1) := by decide +kernel
theorem dX5_write_6 : decode cX5_write 6 = .ok (.getfield 15, 3) := by decide +kernel
theorem dX5_write_9 : decode cX5_write 9 = .ok (.if_icmp .ge 83, 3) := by decide +kernel
theorem dX5_write_12 : decode cX5_write 12 = .ok (.aload_n 0, 1) := by decide +kernel
theorem dX5_write_13 : decode cX5_write 13 = .ok (.iload_n 3, 1) := by decide +kernel
theorem dX5_write_14 : decode cX5_write 14 = .ok (.invokevirtual 30, 3) := by decide +kernel
theorem dX5_write_17 : decode cX5_write 17 = .ok (.iconst 2, 1) := by decide +kernel
theorem dX5_write_18 : decode cX5_write 18 = .ok (.if_icmp .ne 27, 3) := by decide +kernel
theorem dX5_write_21 : decode cX5_write 21 = .ok (.aload_n 0, 1) := by decide +kernel
theorem dX5_write_22 : decode cX5_write 22 = .ok (.iload_n 3, 1) := by decide +kernel
theorem dX5_write_23 : decode cX5_write 23 = .ok (.iconst 1, 1) := by decide +kernel
theorem dX5_write_24 : decode cX5_write 24 = .ok (.iadd, 1) := by decide +kernel
theorem dX5_write_25 : decode cX5_write 25 = .ok (.invokevirtual 30, 3) := by decide +kernel
theorem dX5_write_28 : decode cX5_write 28 = .ok (.iconst 2, 1) := by decide +kernel
theorem dX5_write_29 : decode cX5_write 29 = .ok (.if_icmp .ne 10, 3) := by decide +kernel
theorem dX5_write_32 : decode cX5_write 32 = .ok (.aload_n 1, 1) := by decide +kernel
theorem dX5_write_33 : decode cX5_write 33 = .ok (.bipush 40, 2) := by decide +kernel
theorem dX5_write_35 : decode cX5_write 35 = .ok (.invokevirtual 69, 3) := by decide +kernel
theorem dX5_write_38 : decode cX5_write 38 = .ok (.pop, 1) := by decide +kernel
theorem dX5_write_39 : decode cX5_write 39 = .ok (.iinc 2 1, 3) := by decide +kernel
theorem dX5_write_42 : decode cX5_write 42 = .ok (.goto 44, 3) := by decide +kernel
theorem dX5_write_45 : decode cX5_write 45 = .ok (.aload_n 0, 1) := by decide +kernel
theorem dX5_write_46 : decode cX5_write 46 = .ok (.iload_n 3, 1) := by decide +kernel
theorem dX5_write_47 : decode cX5_write 47 = .ok (.invokevirtual 30, 3) := by decide +kernel
theorem dX5_write_50 : decode cX5_write 50 = .ok (.aload_n 1, 1) := by decide +kernel
theorem dX5_write_51 : decode cX5_write 51 = .ok (.invokestatic 75, 3) := by decide +kernel
theorem dX5_write_54 : decode cX5_write 54 = .ok (.iload_n 2, 1) := by decide +kernel
theorem dX5_write_55 : decode cX5_write 55 = .ok (.ifCond .le 31, 3) := by decide +kernel
theorem dX5_write_58 : decode cX5_write 58 = .ok (.iinc 2 (-1), 3) := by decide +kernel
theorem dX5_write_61 : decode cX5_write 61 = .ok (.aload_n 0, 1) := by decide +kernel
theorem dX5_write_62 : decode cX5_write 62 = .ok (.iload_n 3, 1) := by decide +kernel
theorem dX5_write_63 : decode cX5_write 63 = .ok (.iconst 1, 1) := by decide +kernel
theorem dX5_write_64 : decode cX5_write 64 = .ok (.isub, 1) := by decide +kernel
theorem dX5_write_65 : decode cX5_write 65 = .ok (.invokevirtual 30, 3) := by decide +kernel
theorem dX5_write_68 : decode cX5_write 68 = .ok (.iconst 2, 1) := by decide +kernel
theorem dX5_write_69 : decode cX5_write 69 = .ok (.if_icmp .eq 10, 3) := by decide +kernel
theorem dX5_write_72 : decode cX5_write 72 = .ok (.aload_n 1, 1) := by decide +kernel
theorem dX5_write_73 : decode cX5_write 73 = .ok (.bipush 41, 2) := by decide +kernel
theorem dX5_write_75 : decode cX5_write 75 = .ok (.invokevirtual 69, 3) := by decide +kernel
theorem dX5_write_78 : decode cX5_write 78 = .ok (.pop, 1) := by decide +kernel
theorem dX5_write_79 : decode cX5_write 79 = .ok (.aload_n 1, 1) := by decide +kernel
theorem dX5_write_80 : decode cX5_write 80 = .ok (.bipush 62, 2) := by decide +kernel
theorem dX5_write_82 : decode cX5_write 82 = .ok (.invokevirtual 69, 3) := by decide +kernel
theorem dX5_write_85 : decode cX5_write 85 = .ok (.pop, 1) := by decide +kernel
theorem dX5_write_86 : decode cX5_write 86 = .ok (.iinc 3 1, 3) := by decide +kernel
theorem dX5_write_89 : decode cX5_write 89 = .ok (.goto (-85), 3) := by decide +kernel
theorem dX5_write_92 : decode cX5_write 92 = .ok (.return_, 1) := by decide +kernel
theorem dX5_writeSign_0 : decode cX5_writeSign 0 = .ok (.iload_n 0, 1) := by decide +kernel
theorem dX5_writeSign_1 : decode cX5_writeSign 1 = .ok (.ifCond .eq 8, 3) := by decide +kernel
theorem dX5_writeSign_4 : decode cX5_writeSign 4 = .ok (.iload_n 0, 1) := by decide +kernel
theorem dX5_writeSign_5 : decode cX5_writeSign 5 = .ok (.iconst 1, 1) := by decide +kernel
theorem dX5_writeSign_6 : decode cX5_writeSign 6 = .ok (.if_icmp .ne 20, 3) := by decide +kernel
theorem dX5_writeSign_9 : decode cX5_writeSign 9 = .ok (.aload_n 1, 1) := by decide +kernel
theorem dX5_writeSign_10 : decode cX5_writeSign 10 = .ok (.iload_n 0, 1) := by decide +kernel
theorem dX5_writeSign_11 : decode cX5_writeSign 11 = .ok (.ifCond .ne 8, 3) := by decide +kernel
theorem dX5_writeSign_14 : decode cX5_writeSign 14 = .ok (.bipush 78, 2) := by decide +kernel
theorem dX5_writeSign_16 : decode cX5_writeSign 16 = .ok (.goto 5, 3) := by decide +kernel
theorem dX5_writeSign_19 : decode cX5_writeSign 19 = .ok (.bipush 66, 2) := by decide +kernel
theorem dX5_writeSign_21 : decode cX5_writeSign 21 = .ok (.invokevirtual 69, 3) := by decide +kernel
theorem dX5_writeSign_24 : decode cX5_writeSign 24 = .ok (.pop, 1) := by decide +kernel
theorem dX5_writeSign_25 : decode cX5_writeSign 25 = .ok (.return_, 1) := by decide +kernel
theorem dX5_writeSign_26 : decode cX5_writeSign 26 = .ok (.iload_n 0, 1) := by decide +kernel
theorem dX5_writeSign_27 : decode cX5_writeSign 27 = .ok (.iconst 3, 1) := by decide +kernel
theorem dX5_writeSign_28 : decode cX5_writeSign 28 = .ok (.isub, 1) := by decide +kernel
theorem dX5_writeSign_29 : decode cX5_writeSign 29 = .ok (.istore_n 2, 1) := by decide +kernel
theorem dX5_writeSign_30 : decode cX5_writeSign 30 = .ok (.aload_n 1, 1) := by decide +kernel
theorem dX5_writeSign_31 : decode cX5_writeSign 31 = .ok (.bipush 97, 2) := by decide +kernel
theorem dX5_writeSign_33 : decode cX5_writeSign 33 = .ok (.iload_n 2, 1) := by decide +kernel
theorem dX5_writeSign_34 : decode cX5_writeSign 34 = .ok (.bipush 26, 2) := by decide +kernel
theorem dX5_writeSign_36 : decode cX5_writeSign 36 = .ok (.invokestatic 79, 3) := by decide +kernel
theorem dX5_writeSign_39 : decode cX5_writeSign 39 = .ok (.iadd, 1) := by decide +kernel
theorem dX5_writeSign_40 : decode cX5_writeSign 40 = .ok (.i2c, 1) := by decide +kernel
theorem dX5_writeSign_41 : decode cX5_writeSign 41 = .ok (.invokevirtual 69, 3) := by decide +kernel
theorem dX5_writeSign_44 : decode cX5_writeSign 44 = .ok (.pop, 1) := by decide +kernel
theorem dX5_writeSign_45 : decode cX5_writeSign 45 = .ok (.iload_n 2, 1) := by decide +kernel
theorem dX5_writeSign_46 : decode cX5_writeSign 46 = .ok (.bipush 26, 2) := by decide +kernel
theorem dX5_writeSign_48 : decode cX5_writeSign 48 = .ok (.if_icmp .lt 12, 3) := by decide +kernel
theorem dX5_writeSign_51 : decode cX5_writeSign 51 = .ok (.aload_n 1, 1) := by decide +kernel
theorem dX5_writeSign_52 : decode cX5_writeSign 52 = .ok (.iload_n 2, 1) := by decide +kernel
theorem dX5_writeSign_53 : decode cX5_writeSign 53 = .ok (.bipush 26, 2) := by decide +kernel
theorem dX5_writeSign_55 : decode cX5_writeSign 55 = .ok (.idiv, 1) := by decide +kernel
theorem dX5_writeSign_56 : decode cX5_writeSign 56 = .ok (.invokevirtual 82, 3) := by decide +kernel
theorem dX5_writeSign_59 : decode cX5_writeSign 59 = .ok (.pop, 1) := by decide +kernel
theorem dX5_writeSign_60 : decode cX5_writeSign 60 = .ok (.return_, 1) := by decide +kernel
theorem dX6_init_0 : decode cX6_init 0 = .ok (.aload_n 0, 1) := by decide +kernel
theorem dX6_init_1 : decode cX6_init 1 = .ok (.invokespecial 3, 3) := by decide +kernel
theorem dX6_init_4 : decode cX6_init 4 = .ok (.aload_n 0, 1) := by decide +kernel
theorem dX6_init_5 : decode cX6_init 5 = .ok (.bipush 6, 2) := by decide +kernel
theorem dX6_init_7 : decode cX6_init 7 = .ok (.anewarray 9, 3) := by decide +kernel
theorem dX6_init_10 : decode cX6_init 10 = .ok (.putfield 11, 3) := by decide +kernel
theorem dX6_init_13 : decode cX6_init 13 = .ok (.aload_n 0, 1) := by decide +kernel
theorem dX6_init_14 : decode cX6_init 14 = .ok (.bipush 8, 2) := by decide +kernel
theorem dX6_init_16 : decode cX6_init 16 = .ok (.anewarray 17, 3) := by decide +kernel
theorem dX6_init_19 : decode cX6_init 19 = .ok (.putfield 19, 3) := by decide +kernel
theorem dX6_init_22 : decode cX6_init 22 = .ok (.return_, 1) := by decide +kernel
theorem dX6_take_0 : decode cX6_take 0 = .ok (.iconst 0, 1) := by decide +kernel
theorem dX6_take_1 : decode cX6_take 1 = .ok (.istore_n 2, 1) := by decide +kernel
theorem dX6_take_2 : decode cX6_take 2 = .ok (.iload_n 2, 1) := by decide +kernel
theorem dX6_take_3 : decode cX6_take 3 = .ok (.aload_n 0, 1) := by decide +kernel
theorem dX6_take_4 : decode cX6_take 4 = .ok (.getfield 11, 3) := by decide +kernel
theorem dX6_take_7 : decode cX6_take 7 = .ok (.arraylength, 1) := by decide +kernel
theorem dX6_take_8 : decode cX6_take 8 = .ok (.if_icmp .ge 20, 3) := by decide +kernel
theorem dX6_take_11 : decode cX6_take 11 = .ok (.aload_n 0, 1) := by decide +kernel
theorem dX6_take_12 : decode cX6_take 12 = .ok (.getfield 11, 3) := by decide +kernel
theorem dX6_take_15 : decode cX6_take 15 = .ok (.iload_n 2, 1) := by decide +kernel
theorem dX6_take_16 : decode cX6_take 16 = .ok (.aload_n 1, 1) := by decide +kernel
theorem dX6_take_17 : decode cX6_take 17 = .ok (.iload_n 2, 1) := by decide +kernel
theorem dX6_take_18 : decode cX6_take 18 = .ok (.invokevirtual 23, 3) := by decide +kernel
theorem dX6_take_21 : decode cX6_take 21 = .ok (.aastore, 1) := by decide +kernel
theorem dX6_take_22 : decode cX6_take 22 = .ok (.iinc 2 1, 3) := by decide +kernel
theorem dX6_take_25 : decode cX6_take 25 = .ok (.goto (-23), 3) := by decide +kernel
theorem dX6_take_28 : decode cX6_take 28 = .ok (.iconst 0, 1) := by decide +kernel
theorem dX6_take_29 : decode cX6_take 29 = .ok (.istore_n 2, 1) := by decide +kernel
theorem dX6_take_30 : decode cX6_take 30 = .ok (.iload_n 2, 1) := by decide +kernel
theorem dX6_take_31 : decode cX6_take 31 = .ok (.aload_n 0, 1) := by decide +kernel
theorem dX6_take_32 : decode cX6_take 32 = .ok (.getfield 19, 3) := by decide +kernel
theorem dX6_take_35 : decode cX6_take 35 = .ok (.arraylength, 1) := by decide +kernel
theorem dX6_take_36 : decode cX6_take 36 = .ok (.if_icmp .ge 20, 3) := by decide +kernel
theorem dX6_take_39 : decode cX6_take 39 = .ok (.aload_n 0, 1) := by decide +kernel
theorem dX6_take_40 : decode cX6_take 40 = .ok (.getfield 19, 3) := by decide +kernel
theorem dX6_take_43 : decode cX6_take 43 = .ok (.iload_n 2, 1) := by decide +kernel
theorem dX6_take_44 : decode cX6_take 44 = .ok (.aload_n 1, 1) := by decide +kernel
theorem dX6_take_45 : decode cX6_take 45 = .ok (.iload_n 2, 1) := by decide +kernel
theorem dX6_take_46 : decode cX6_take 46 = .ok (.invokevirtual 27, 3) := by decide +kernel
theorem dX6_take_49 : decode cX6_take 49 = .ok (.aastore, 1) := by decide +kernel
theorem dX6_take_50 : decode cX6_take 50 = .ok (.iinc 2 1, 3) := by decide +kernel
theorem dX6_take_53 : decode cX6_take 53 = .ok (.goto (-23), 3) := by decide +kernel
theorem dX6_take_56 : decode cX6_take 56 = .ok (.aload_n 0, 1) := by decide +kernel
theorem dX6_take_57 : decode cX6_take 57 = .ok (.aload_n 1, 1) := by decide +kernel
theorem dX6_take_58 : decode cX6_take 58 = .ok (.getfield 31, 3) := by decide +kernel
theorem dX6_take_61 : decode cX6_take 61 = .ok (.putfield 31, 3) := by decide +kernel
theorem dX6_take_64 : decode cX6_take 64 = .ok (.aload_n 0, 1) := by decide +kernel
theorem dX6_take_65 : decode cX6_take 65 = .ok (.aload_n 1, 1) := by decide +kernel
theorem dX6_take_66 : decode cX6_take 66 = .ok (.getfield 35, 3) := by decide +kernel
theorem dX6_take_69 : decode cX6_take 69 = .ok (.putfield 35, 3) := by decide +kernel
theorem dX6_take_72 : decode cX6_take 72 = .ok (.aload_n 0, 1) := by decide +kernel
theorem dX6_take_73 : decode cX6_take 73 = .ok (.aload_n 1, 1) := by decide +kernel
theorem dX6_take_74 : decode cX6_take 74 = .ok (.getfield 38, 3) := by decide +kernel
theorem dX6_take_77 : decode cX6_take 77 = .ok (.putfield 38, 3) := by decide +kernel
theorem dX6_take_80 : decode cX6_take 80 = .ok (.return_, 1) := by decide +kernel
theorem dX6_termAt_0 : decode cX6_termAt 0 = .ok (.iload_n 1, 1) := by decide +kernel
theorem dX6_termAt_1 : decode cX6_termAt 1 = .ok (.ifCond .lt 29, 3) := by decide +kernel
theorem dX6_termAt_4 : decode cX6_termAt 4 = .ok (.iload_n 1, 1) := by decide +kernel
theorem dX6_termAt_5 : decode cX6_termAt 5 = .ok (.aload_n 0, 1) := by decide +kernel
theorem dX6_termAt_6 : decode cX6_termAt 6 = .ok (.getfield 31, 3) := by decide +kernel
theorem dX6_termAt_9 : decode cX6_termAt 9 = .ok (.if_icmp .ge 21, 3) := by decide +kernel
theorem dX6_termAt_12 : decode cX6_termAt 12 = .ok (.iload_n 1, 1) := by decide +kernel
theorem dX6_termAt_13 : decode cX6_termAt 13 = .ok (.aload_n 0, 1) := by decide +kernel
theorem dX6_termAt_14 : decode cX6_termAt 14 = .ok (.getfield 11, 3) := by decide +kernel
theorem dX6_termAt_17 : decode cX6_termAt 17 = .ok (.arraylength, 1) := by decide +kernel
theorem dX6_termAt_18 : decode cX6_termAt 18 = .ok (.if_icmp .ge 12, 3) := by decide +kernel
theorem dX6_termAt_21 : decode cX6_termAt 21 = .ok (.aload_n 0, 1) := by decide +kernel
theorem dX6_termAt_22 : decode cX6_termAt 22 = .ok (.getfield 11, 3) := by decide +kernel
theorem dX6_termAt_25 : decode cX6_termAt 25 = .ok (.iload_n 1, 1) := by decide +kernel
theorem dX6_termAt_26 : decode cX6_termAt 26 = .ok (.aaload, 1) := by decide +kernel
theorem dX6_termAt_27 : decode cX6_termAt 27 = .ok (.goto 4, 3) := by decide +kernel
theorem dX6_termAt_30 : decode cX6_termAt 30 = .ok (.aconst_null, 1) := by decide +kernel
theorem dX6_termAt_31 : decode cX6_termAt 31 = .ok (.areturn, 1) := by decide +kernel
theorem dX6_keptAt_0 : decode cX6_keptAt 0 = .ok (.iload_n 1, 1) := by decide +kernel
theorem dX6_keptAt_1 : decode cX6_keptAt 1 = .ok (.ifCond .lt 21, 3) := by decide +kernel
theorem dX6_keptAt_4 : decode cX6_keptAt 4 = .ok (.iload_n 1, 1) := by decide +kernel
theorem dX6_keptAt_5 : decode cX6_keptAt 5 = .ok (.aload_n 0, 1) := by decide +kernel
theorem dX6_keptAt_6 : decode cX6_keptAt 6 = .ok (.getfield 19, 3) := by decide +kernel
theorem dX6_keptAt_9 : decode cX6_keptAt 9 = .ok (.arraylength, 1) := by decide +kernel
theorem dX6_keptAt_10 : decode cX6_keptAt 10 = .ok (.if_icmp .ge 12, 3) := by decide +kernel
theorem dX6_keptAt_13 : decode cX6_keptAt 13 = .ok (.aload_n 0, 1) := by decide +kernel
theorem dX6_keptAt_14 : decode cX6_keptAt 14 = .ok (.getfield 19, 3) := by decide +kernel
theorem dX6_keptAt_17 : decode cX6_keptAt 17 = .ok (.iload_n 1, 1) := by decide +kernel
theorem dX6_keptAt_18 : decode cX6_keptAt 18 = .ok (.aaload, 1) := by decide +kernel
theorem dX6_keptAt_19 : decode cX6_keptAt 19 = .ok (.goto 4, 3) := by decide +kernel
theorem dX6_keptAt_22 : decode cX6_keptAt 22 = .ok (.aconst_null, 1) := by decide +kernel
theorem dX6_keptAt_23 : decode cX6_keptAt 23 = .ok (.areturn, 1) := by decide +kernel
theorem dX6_give_0 : decode cX6_give 0 = .ok (.aload_n 0, 1) := by decide +kernel
theorem dX6_give_1 : decode cX6_give 1 = .ok (.getfield 31, 3) := by decide +kernel
theorem dX6_give_4 : decode cX6_give 4 = .ok (.istore_n 2, 1) := by decide +kernel
theorem dX6_give_5 : decode cX6_give 5 = .ok (.iload_n 2, 1) := by decide +kernel
theorem dX6_give_6 : decode cX6_give 6 = .ok (.ifCond .lt 39, 3) := by decide +kernel
theorem dX6_give_9 : decode cX6_give 9 = .ok (.iload_n 2, 1) := by decide +kernel
theorem dX6_give_10 : decode cX6_give 10 = .ok (.aload_n 0, 1) := by decide +kernel
theorem dX6_give_11 : decode cX6_give 11 = .ok (.getfield 11, 3) := by decide +kernel
theorem dX6_give_14 : decode cX6_give 14 = .ok (.arraylength, 1) := by decide +kernel
theorem dX6_give_15 : decode cX6_give 15 = .ok (.if_icmp .ge 30, 3) := by decide +kernel
theorem dX6_give_18 : decode cX6_give 18 = .ok (.aload_n 0, 1) := by decide +kernel
theorem dX6_give_19 : decode cX6_give 19 = .ok (.getfield 11, 3) := by decide +kernel
theorem dX6_give_22 : decode cX6_give 22 = .ok (.iload_n 2, 1) := by decide +kernel
theorem dX6_give_23 : decode cX6_give 23 = .ok (.aload_n 1, 1) := by decide +kernel
theorem dX6_give_24 : decode cX6_give 24 = .ok (.aastore, 1) := by decide +kernel
theorem dX6_give_25 : decode cX6_give 25 = .ok (.aload_n 0, 1) := by decide +kernel
theorem dX6_give_26 : decode cX6_give 26 = .ok (.dup, 1) := by decide +kernel
theorem dX6_give_27 : decode cX6_give 27 = .ok (.getfield 31, 3) := by decide +kernel
theorem dX6_give_30 : decode cX6_give 30 = .ok (.iconst 1, 1) := by decide +kernel
theorem dX6_give_31 : decode cX6_give 31 = .ok (.iadd, 1) := by decide +kernel
theorem dX6_give_32 : decode cX6_give 32 = .ok (.putfield 31, 3) := by decide +kernel
theorem dX6_give_35 : decode cX6_give 35 = .ok (.aload_n 0, 1) := by decide +kernel
theorem dX6_give_36 : decode cX6_give 36 = .ok (.dup, 1) := by decide +kernel
theorem dX6_give_37 : decode cX6_give 37 = .ok (.getfield 35, 3) := by decide +kernel
theorem dX6_give_40 : decode cX6_give 40 = .ok (.iconst 1, 1) := by decide +kernel
theorem dX6_give_41 : decode cX6_give 41 = .ok (.iadd, 1) := by decide +kernel
theorem dX6_give_42 : decode cX6_give 42 = .ok (.putfield 35, 3) := by decide +kernel
theorem dX6_give_45 : decode cX6_give 45 = .ok (.iload_n 2, 1) := by decide +kernel
theorem dX6_give_46 : decode cX6_give 46 = .ok (.ireturn, 1) := by decide +kernel
theorem dX6_remove_0 : decode cX6_remove 0 = .ok (.iload_n 1, 1) := by decide +kernel
theorem dX6_remove_1 : decode cX6_remove 1 = .ok (.iconst 0, 1) := by decide +kernel
theorem dX6_remove_2 : decode cX6_remove 2 = .ok (.invokestatic 41, 3) := by decide +kernel
theorem dX6_remove_5 : decode cX6_remove 5 = .ok (.istore_n 2, 1) := by decide +kernel
theorem dX6_remove_6 : decode cX6_remove 6 = .ok (.iload_n 2, 1) := by decide +kernel
theorem dX6_remove_7 : decode cX6_remove 7 = .ok (.aload_n 0, 1) := by decide +kernel
theorem dX6_remove_8 : decode cX6_remove 8 = .ok (.getfield 31, 3) := by decide +kernel
theorem dX6_remove_11 : decode cX6_remove 11 = .ok (.if_icmp .ge 31, 3) := by decide +kernel
theorem dX6_remove_14 : decode cX6_remove 14 = .ok (.iload_n 2, 1) := by decide +kernel
theorem dX6_remove_15 : decode cX6_remove 15 = .ok (.aload_n 0, 1) := by decide +kernel
theorem dX6_remove_16 : decode cX6_remove 16 = .ok (.getfield 11, 3) := by decide +kernel
theorem dX6_remove_19 : decode cX6_remove 19 = .ok (.arraylength, 1) := by decide +kernel
theorem dX6_remove_20 : decode cX6_remove 20 = .ok (.if_icmp .ge 22, 3) := by decide +kernel
theorem dX6_remove_23 : decode cX6_remove 23 = .ok (.aload_n 0, 1) := by decide +kernel
theorem dX6_remove_24 : decode cX6_remove 24 = .ok (.getfield 11, 3) := by decide +kernel
theorem dX6_remove_27 : decode cX6_remove 27 = .ok (.iload_n 2, 1) := by decide +kernel
theorem dX6_remove_28 : decode cX6_remove 28 = .ok (.aload_n 0, 1) := by decide +kernel
theorem dX6_remove_29 : decode cX6_remove 29 = .ok (.iload_n 2, 1) := by decide +kernel
theorem dX6_remove_30 : decode cX6_remove 30 = .ok (.iconst 1, 1) := by decide +kernel
theorem dX6_remove_31 : decode cX6_remove 31 = .ok (.iadd, 1) := by decide +kernel
theorem dX6_remove_32 : decode cX6_remove 32 = .ok (.invokevirtual 23, 3) := by decide +kernel
theorem dX6_remove_35 : decode cX6_remove 35 = .ok (.aastore, 1) := by decide +kernel
theorem dX6_remove_36 : decode cX6_remove 36 = .ok (.iinc 2 1, 3) := by decide +kernel
theorem dX6_remove_39 : decode cX6_remove 39 = .ok (.goto (-33), 3) := by decide +kernel
theorem dX6_remove_42 : decode cX6_remove 42 = .ok (.aload_n 0, 1) := by decide +kernel
theorem dX6_remove_43 : decode cX6_remove 43 = .ok (.dup, 1) := by decide +kernel
theorem dX6_remove_44 : decode cX6_remove 44 = .ok (.getfield 31, 3) := by decide +kernel
theorem dX6_remove_47 : decode cX6_remove 47 = .ok (.iconst 1, 1) := by decide +kernel
theorem dX6_remove_48 : decode cX6_remove 48 = .ok (.isub, 1) := by decide +kernel
theorem dX6_remove_49 : decode cX6_remove 49 = .ok (.putfield 31, 3) := by decide +kernel
theorem dX6_remove_52 : decode cX6_remove 52 = .ok (.return_, 1) := by decide +kernel
theorem dX6_keepAt_0 : decode cX6_keepAt 0 = .ok (.iload_n 1, 1) := by decide +kernel
theorem dX6_keepAt_1 : decode cX6_keepAt 1 = .ok (.ifCond .lt 29, 3) := by decide +kernel
theorem dX6_keepAt_4 : decode cX6_keepAt 4 = .ok (.iload_n 1, 1) := by decide +kernel
theorem dX6_keepAt_5 : decode cX6_keepAt 5 = .ok (.aload_n 0, 1) := by decide +kernel
theorem dX6_keepAt_6 : decode cX6_keepAt 6 = .ok (.getfield 19, 3) := by decide +kernel
theorem dX6_keepAt_9 : decode cX6_keepAt 9 = .ok (.arraylength, 1) := by decide +kernel
theorem dX6_keepAt_10 : decode cX6_keepAt 10 = .ok (.if_icmp .ge 20, 3) := by decide +kernel
theorem dX6_keepAt_13 : decode cX6_keepAt 13 = .ok (.aload_n 0, 1) := by decide +kernel
theorem dX6_keepAt_14 : decode cX6_keepAt 14 = .ok (.getfield 19, 3) := by decide +kernel
theorem dX6_keepAt_17 : decode cX6_keepAt 17 = .ok (.iload_n 1, 1) := by decide +kernel
theorem dX6_keepAt_18 : decode cX6_keepAt 18 = .ok (.aload_n 2, 1) := by decide +kernel
theorem dX6_keepAt_19 : decode cX6_keepAt 19 = .ok (.aastore, 1) := by decide +kernel
theorem dX6_keepAt_20 : decode cX6_keepAt 20 = .ok (.aload_n 0, 1) := by decide +kernel
theorem dX6_keepAt_21 : decode cX6_keepAt 21 = .ok (.dup, 1) := by decide +kernel
theorem dX6_keepAt_22 : decode cX6_keepAt 22 = .ok (.getfield 38, 3) := by decide +kernel
theorem dX6_keepAt_25 : decode cX6_keepAt 25 = .ok (.iconst 1, 1) := by decide +kernel
theorem dX6_keepAt_26 : decode cX6_keepAt 26 = .ok (.iadd, 1) := by decide +kernel
theorem dX6_keepAt_27 : decode cX6_keepAt 27 = .ok (.putfield 38, 3) := by decide +kernel
theorem dX6_keepAt_30 : decode cX6_keepAt 30 = .ok (.return_, 1) := by decide +kernel
theorem dX6_emptyAt_0 : decode cX6_emptyAt 0 = .ok (.iload_n 1, 1) := by decide +kernel
theorem dX6_emptyAt_1 : decode cX6_emptyAt 1 = .ok (.ifCond .lt 19, 3) := by decide +kernel
theorem dX6_emptyAt_4 : decode cX6_emptyAt 4 = .ok (.iload_n 1, 1) := by decide +kernel
theorem dX6_emptyAt_5 : decode cX6_emptyAt 5 = .ok (.aload_n 0, 1) := by decide +kernel
theorem dX6_emptyAt_6 : decode cX6_emptyAt 6 = .ok (.getfield 19, 3) := by decide +kernel
theorem dX6_emptyAt_9 : decode cX6_emptyAt 9 = .ok (.arraylength, 1) := by decide +kernel
theorem dX6_emptyAt_10 : decode cX6_emptyAt 10 = .ok (.if_icmp .ge 10, 3) := by decide +kernel
theorem dX6_emptyAt_13 : decode cX6_emptyAt 13 = .ok (.aload_n 0, 1) := by decide +kernel
theorem dX6_emptyAt_14 : decode cX6_emptyAt 14 = .ok (.getfield 19, 3) := by decide +kernel
theorem dX6_emptyAt_17 : decode cX6_emptyAt 17 = .ok (.iload_n 1, 1) := by decide +kernel
theorem dX6_emptyAt_18 : decode cX6_emptyAt 18 = .ok (.aconst_null, 1) := by decide +kernel
theorem dX6_emptyAt_19 : decode cX6_emptyAt 19 = .ok (.aastore, 1) := by decide +kernel
theorem dX6_emptyAt_20 : decode cX6_emptyAt 20 = .ok (.return_, 1) := by decide +kernel
theorem dX6_nodesOf_0 : decode cX6_nodesOf 0 = .ok (.aload_n 0, 1) := by decide +kernel
theorem dX6_nodesOf_1 : decode cX6_nodesOf 1 = .ok (.iload_n 1, 1) := by decide +kernel
theorem dX6_nodesOf_2 : decode cX6_nodesOf 2 = .ok (.invokevirtual 23, 3) := by decide +kernel
theorem dX6_nodesOf_5 : decode cX6_nodesOf 5 = .ok (.astore_n 2, 1) := by decide +kernel
theorem dX6_nodesOf_6 : decode cX6_nodesOf 6 = .ok (.aload_n 2, 1) := by decide +kernel
theorem dX6_nodesOf_7 : decode cX6_nodesOf 7 = .ok (.ifnonnull 7, 3) := by decide +kernel
theorem dX6_nodesOf_10 : decode cX6_nodesOf 10 = .ok (.iconst 0, 1) := by decide +kernel
theorem dX6_nodesOf_11 : decode cX6_nodesOf 11 = .ok (.goto 7, 3) := by decide +kernel
theorem dX6_nodesOf_14 : decode cX6_nodesOf 14 = .ok (.aload_n 2, 1) := by decide +kernel
theorem dX6_nodesOf_15 : decode cX6_nodesOf 15 = .ok (.getfield 47, 3) := by decide +kernel
theorem dX6_nodesOf_18 : decode cX6_nodesOf 18 = .ok (.ireturn, 1) := by decide +kernel
theorem dX6_allNodes_0 : decode cX6_allNodes 0 = .ok (.iconst 0, 1) := by decide +kernel
theorem dX6_allNodes_1 : decode cX6_allNodes 1 = .ok (.istore_n 1, 1) := by decide +kernel
theorem dX6_allNodes_2 : decode cX6_allNodes 2 = .ok (.iconst 0, 1) := by decide +kernel
theorem dX6_allNodes_3 : decode cX6_allNodes 3 = .ok (.istore_n 2, 1) := by decide +kernel
theorem dX6_allNodes_4 : decode cX6_allNodes 4 = .ok (.iload_n 2, 1) := by decide +kernel
theorem dX6_allNodes_5 : decode cX6_allNodes 5 = .ok (.aload_n 0, 1) := by decide +kernel
theorem dX6_allNodes_6 : decode cX6_allNodes 6 = .ok (.getfield 31, 3) := by decide +kernel
theorem dX6_allNodes_9 : decode cX6_allNodes 9 = .ok (.if_icmp .ge 17, 3) := by decide +kernel
theorem dX6_allNodes_12 : decode cX6_allNodes 12 = .ok (.iload_n 1, 1) := by decide +kernel
theorem dX6_allNodes_13 : decode cX6_allNodes 13 = .ok (.aload_n 0, 1) := by decide +kernel
theorem dX6_allNodes_14 : decode cX6_allNodes 14 = .ok (.iload_n 2, 1) := by decide +kernel
theorem dX6_allNodes_15 : decode cX6_allNodes 15 = .ok (.invokevirtual 48, 3) := by decide +kernel
theorem dX6_allNodes_18 : decode cX6_allNodes 18 = .ok (.iadd, 1) := by decide +kernel
theorem dX6_allNodes_19 : decode cX6_allNodes 19 = .ok (.istore_n 1, 1) := by decide +kernel
theorem dX6_allNodes_20 : decode cX6_allNodes 20 = .ok (.iinc 2 1, 3) := by decide +kernel
theorem dX6_allNodes_23 : decode cX6_allNodes 23 = .ok (.goto (-19), 3) := by decide +kernel
theorem dX6_allNodes_26 : decode cX6_allNodes 26 = .ok (.iload_n 1, 1) := by decide +kernel
theorem dX6_allNodes_27 : decode cX6_allNodes 27 = .ok (.ireturn, 1) := by decide +kernel
theorem dX6_capitalsKeeping_0 : decode cX6_capitalsKeeping 0 = .ok (.iconst 0, 1) := by decide +kernel
theorem dX6_capitalsKeeping_1 : decode cX6_capitalsKeeping 1 = .ok (.istore_n 1, 1) := by decide +kernel
theorem dX6_capitalsKeeping_2 : decode cX6_capitalsKeeping 2 = .ok (.iconst 0, 1) := by decide +kernel
theorem dX6_capitalsKeeping_3 : decode cX6_capitalsKeeping 3 = .ok (.istore_n 2, 1) := by decide +kernel
theorem dX6_capitalsKeeping_4 : decode cX6_capitalsKeeping 4 = .ok (.iload_n 2, 1) := by decide +kernel
theorem dX6_capitalsKeeping_5 : decode cX6_capitalsKeeping 5 = .ok (.bipush 8, 2) := by decide +kernel
theorem dX6_capitalsKeeping_7 : decode cX6_capitalsKeeping 7 = .ok (.if_icmp .ge 20, 3) := by decide +kernel
theorem dX6_capitalsKeeping_10 : decode cX6_capitalsKeeping 10 = .ok (.aload_n 0, 1) := by decide +kernel
theorem dX6_capitalsKeeping_11 : decode cX6_capitalsKeeping 11 = .ok (.iload_n 2, 1) := by decide +kernel
theorem dX6_capitalsKeeping_12 : decode cX6_capitalsKeeping 12 = .ok (.invokevirtual 27, 3) := by decide +kernel
theorem dX6_capitalsKeeping_15 : decode cX6_capitalsKeeping 15 = .ok (.ifnull 6, 3) := by decide +kernel
theorem dX6_capitalsKeeping_18 : decode cX6_capitalsKeeping 18 = .ok (.iinc 1 1, 3) := by decide +kernel
theorem dX6_capitalsKeeping_21 : decode cX6_capitalsKeeping 21 = .ok (.iinc 2 1, 3) := by decide +kernel
theorem dX6_capitalsKeeping_24 : decode cX6_capitalsKeeping 24 = .ok (.goto (-20), 3) := by decide +kernel
theorem dX6_capitalsKeeping_27 : decode cX6_capitalsKeeping 27 = .ok (.iload_n 1, 1) := by decide +kernel
theorem dX6_capitalsKeeping_28 : decode cX6_capitalsKeeping 28 = .ok (.ireturn, 1) := by decide +kernel
theorem dX6_placeOf_0 : decode cX6_placeOf 0 = .ok (.iconst 0, 1) := by decide +kernel
theorem dX6_placeOf_1 : decode cX6_placeOf 1 = .ok (.istore_n 2, 1) := by decide +kernel
theorem dX6_placeOf_2 : decode cX6_placeOf 2 = .ok (.iconst 0, 1) := by decide +kernel
theorem dX6_placeOf_3 : decode cX6_placeOf 3 = .ok (.istore_n 3, 1) := by decide +kernel
theorem dX6_placeOf_4 : decode cX6_placeOf 4 = .ok (.iload_n 3, 1) := by decide +kernel
theorem dX6_placeOf_5 : decode cX6_placeOf 5 = .ok (.aload_n 0, 1) := by decide +kernel
theorem dX6_placeOf_6 : decode cX6_placeOf 6 = .ok (.getfield 31, 3) := by decide +kernel
theorem dX6_placeOf_9 : decode cX6_placeOf 9 = .ok (.if_icmp .ge 43, 3) := by decide +kernel
theorem dX6_placeOf_12 : decode cX6_placeOf 12 = .ok (.aload_n 0, 1) := by decide +kernel
theorem dX6_placeOf_13 : decode cX6_placeOf 13 = .ok (.iload_n 3, 1) := by decide +kernel
theorem dX6_placeOf_14 : decode cX6_placeOf 14 = .ok (.invokevirtual 48, 3) := by decide +kernel
theorem dX6_placeOf_17 : decode cX6_placeOf 17 = .ok (.aload_n 0, 1) := by decide +kernel
theorem dX6_placeOf_18 : decode cX6_placeOf 18 = .ok (.iload_n 1, 1) := by decide +kernel
theorem dX6_placeOf_19 : decode cX6_placeOf 19 = .ok (.invokevirtual 48, 3) := by decide +kernel
theorem dX6_placeOf_22 : decode cX6_placeOf 22 = .ok (.if_icmp .gt 21, 3) := by decide +kernel
theorem dX6_placeOf_25 : decode cX6_placeOf 25 = .ok (.aload_n 0, 1) := by decide +kernel
theorem dX6_placeOf_26 : decode cX6_placeOf 26 = .ok (.iload_n 3, 1) := by decide +kernel
theorem dX6_placeOf_27 : decode cX6_placeOf 27 = .ok (.invokevirtual 48, 3) := by decide +kernel
theorem dX6_placeOf_30 : decode cX6_placeOf 30 = .ok (.aload_n 0, 1) := by decide +kernel
theorem dX6_placeOf_31 : decode cX6_placeOf 31 = .ok (.iload_n 1, 1) := by decide +kernel
theorem dX6_placeOf_32 : decode cX6_placeOf 32 = .ok (.invokevirtual 48, 3) := by decide +kernel
theorem dX6_placeOf_35 : decode cX6_placeOf 35 = .ok (.if_icmp .ne 11, 3) := by decide +kernel
theorem dX6_placeOf_38 : decode cX6_placeOf 38 = .ok (.iload_n 3, 1) := by decide +kernel
theorem dX6_placeOf_39 : decode cX6_placeOf 39 = .ok (.iload_n 1, 1) := by decide +kernel
theorem dX6_placeOf_40 : decode cX6_placeOf 40 = .ok (.if_icmp .ge 6, 3) := by decide +kernel
theorem dX6_placeOf_43 : decode cX6_placeOf 43 = .ok (.iinc 2 1, 3) := by decide +kernel
theorem dX6_placeOf_46 : decode cX6_placeOf 46 = .ok (.iinc 3 1, 3) := by decide +kernel
theorem dX6_placeOf_49 : decode cX6_placeOf 49 = .ok (.goto (-45), 3) := by decide +kernel
theorem dX6_placeOf_52 : decode cX6_placeOf 52 = .ok (.iload_n 2, 1) := by decide +kernel
theorem dX6_placeOf_53 : decode cX6_placeOf 53 = .ok (.ireturn, 1) := by decide +kernel
theorem dX7_init_0 : decode cX7_init 0 = .ok (.aload_n 0, 1) := by decide +kernel
theorem dX7_init_1 : decode cX7_init 1 = .ok (.invokespecial 3, 3) := by decide +kernel
theorem dX7_init_4 : decode cX7_init 4 = .ok (.aload_n 0, 1) := by decide +kernel
theorem dX7_init_5 : decode cX7_init 5 = .ok (.bipush 8, 2) := by decide +kernel
theorem dX7_init_7 : decode cX7_init 7 = .ok (.iload_n 1, 1) := by decide +kernel
theorem dX7_init_8 : decode cX7_init 8 = .ok (.ifCond .ge 7, 3) := by decide +kernel
theorem dX7_init_11 : decode cX7_init 11 = .ok (.iconst 0, 1) := by decide +kernel
theorem dX7_init_12 : decode cX7_init 12 = .ok (.goto 4, 3) := by decide +kernel
theorem dX7_init_15 : decode cX7_init 15 = .ok (.iload_n 1, 1) := by decide +kernel
theorem dX7_init_16 : decode cX7_init 16 = .ok (.multianewarray 9 2, 4) := by decide +kernel
theorem dX7_init_20 : decode cX7_init 20 = .ok (.putfield 11, 3) := by decide +kernel
theorem dX7_init_23 : decode cX7_init 23 = .ok (.return_, 1) := by decide +kernel
theorem dX7_hasNode_0 : decode cX7_hasNode 0 = .ok (.iload_n 1, 1) := by decide +kernel
theorem dX7_hasNode_1 : decode cX7_hasNode 1 = .ok (.ifCond .lt 15, 3) := by decide +kernel
theorem dX7_hasNode_4 : decode cX7_hasNode 4 = .ok (.iload_n 1, 1) := by decide +kernel
theorem dX7_hasNode_5 : decode cX7_hasNode 5 = .ok (.aload_n 0, 1) := by decide +kernel
theorem dX7_hasNode_6 : decode cX7_hasNode 6 = .ok (.getfield 16, 3) := by decide +kernel
theorem dX7_hasNode_9 : decode cX7_hasNode 9 = .ok (.if_icmp .ge 7, 3) := by decide +kernel
theorem dX7_hasNode_12 : decode cX7_hasNode 12 = .ok (.iconst 1, 1) := by decide +kernel
theorem dX7_hasNode_13 : decode cX7_hasNode 13 = .ok (.goto 4, 3) := by decide +kernel
theorem dX7_hasNode_16 : decode cX7_hasNode 16 = .ok (.iconst 0, 1) := by decide +kernel
theorem dX7_hasNode_17 : decode cX7_hasNode 17 = .ok (.ireturn, 1) := by decide +kernel
theorem dX7_of_0 : decode cX7_of 0 = .ok (.iload_n 1, 1) := by decide +kernel
theorem dX7_of_1 : decode cX7_of 1 = .ok (.ifCond .lt 33, 3) := by decide +kernel
theorem dX7_of_4 : decode cX7_of 4 = .ok (.iload_n 1, 1) := by decide +kernel
theorem dX7_of_5 : decode cX7_of 5 = .ok (.aload_n 0, 1) := by decide +kernel
theorem dX7_of_6 : decode cX7_of 6 = .ok (.getfield 11, 3) := by decide +kernel
theorem dX7_of_9 : decode cX7_of 9 = .ok (.arraylength, 1) := by decide +kernel
theorem dX7_of_10 : decode cX7_of 10 = .ok (.if_icmp .ge 24, 3) := by decide +kernel
theorem dX7_of_13 : decode cX7_of 13 = .ok (.aload_n 0, 1) := by decide +kernel
theorem dX7_of_14 : decode cX7_of 14 = .ok (.iload_n 2, 1) := by decide +kernel
theorem dX7_of_15 : decode cX7_of 15 = .ok (.invokevirtual 20, 3) := by decide +kernel
theorem dX7_of_18 : decode cX7_of 18 = .ok (.ifCond .eq 16, 3) := by decide +kernel
theorem dX7_of_21 : decode cX7_of 21 = .ok (.aload_n 0, 1) := by decide +kernel
theorem dX7_of_22 : decode cX7_of 22 = .ok (.getfield 11, 3) := by decide +kernel
theorem dX7_of_25 : decode cX7_of 25 = .ok (.iload_n 1, 1) := by decide +kernel
theorem dX7_of_26 : decode cX7_of 26 = .ok (.aaload, 1) := by decide +kernel
theorem dX7_of_27 : decode cX7_of 27 = .ok (.iload_n 2, 1) := by decide +kernel
theorem dX7_of_28 : decode cX7_of 28 = .ok (.invokestatic 24, 3) := by decide +kernel
theorem dX7_of_31 : decode cX7_of 31 = .ok (.goto 4, 3) := by decide +kernel
theorem dX7_of_34 : decode cX7_of 34 = .ok (.iconst (-1), 1) := by decide +kernel
theorem dX7_of_35 : decode cX7_of 35 = .ok (.ireturn, 1) := by decide +kernel
theorem dX7_set_0 : decode cX7_set 0 = .ok (.iload_n 1, 1) := by decide +kernel
theorem dX7_set_1 : decode cX7_set 1 = .ok (.ifCond .lt 23, 3) := by decide +kernel
theorem dX7_set_4 : decode cX7_set 4 = .ok (.iload_n 1, 1) := by decide +kernel
theorem dX7_set_5 : decode cX7_set 5 = .ok (.aload_n 0, 1) := by decide +kernel
theorem dX7_set_6 : decode cX7_set 6 = .ok (.getfield 11, 3) := by decide +kernel
theorem dX7_set_9 : decode cX7_set 9 = .ok (.arraylength, 1) := by decide +kernel
theorem dX7_set_10 : decode cX7_set 10 = .ok (.if_icmp .ge 14, 3) := by decide +kernel
theorem dX7_set_13 : decode cX7_set 13 = .ok (.aload_n 0, 1) := by decide +kernel
theorem dX7_set_14 : decode cX7_set 14 = .ok (.getfield 11, 3) := by decide +kernel
theorem dX7_set_17 : decode cX7_set 17 = .ok (.iload_n 1, 1) := by decide +kernel
theorem dX7_set_18 : decode cX7_set 18 = .ok (.aaload, 1) := by decide +kernel
theorem dX7_set_19 : decode cX7_set 19 = .ok (.iload_n 2, 1) := by decide +kernel
theorem dX7_set_20 : decode cX7_set 20 = .ok (.iload_n 3, 1) := by decide +kernel
theorem dX7_set_21 : decode cX7_set 21 = .ok (.invokestatic 28, 3) := by decide +kernel
theorem dX7_set_24 : decode cX7_set 24 = .ok (.return_, 1) := by decide +kernel
theorem dX7_parentOf_0 : decode cX7_parentOf 0 = .ok (.aload_n 0, 1) := by decide +kernel
theorem dX7_parentOf_1 : decode cX7_parentOf 1 = .ok (.iconst 1, 1) := by decide +kernel
theorem dX7_parentOf_2 : decode cX7_parentOf 2 = .ok (.iload_n 1, 1) := by decide +kernel
theorem dX7_parentOf_3 : decode cX7_parentOf 3 = .ok (.invokevirtual 32, 3) := by decide +kernel
theorem dX7_parentOf_6 : decode cX7_parentOf 6 = .ok (.istore_n 2, 1) := by decide +kernel
theorem dX7_parentOf_7 : decode cX7_parentOf 7 = .ok (.iload_n 2, 1) := by decide +kernel
theorem dX7_parentOf_8 : decode cX7_parentOf 8 = .ok (.iload_n 1, 1) := by decide +kernel
theorem dX7_parentOf_9 : decode cX7_parentOf 9 = .ok (.if_icmp .ge 7, 3) := by decide +kernel
theorem dX7_parentOf_12 : decode cX7_parentOf 12 = .ok (.iload_n 2, 1) := by decide +kernel
theorem dX7_parentOf_13 : decode cX7_parentOf 13 = .ok (.goto 4, 3) := by decide +kernel
theorem dX7_parentOf_16 : decode cX7_parentOf 16 = .ok (.iconst (-1), 1) := by decide +kernel
theorem dX7_parentOf_17 : decode cX7_parentOf 17 = .ok (.ireturn, 1) := by decide +kernel
theorem dX7_namesBoundBy_0 : decode cX7_namesBoundBy 0 = .ok (.iconst 0, 1) := by decide +kernel
theorem dX7_namesBoundBy_1 : decode cX7_namesBoundBy 1 = .ok (.istore_n 2, 1) := by decide +kernel
theorem dX7_namesBoundBy_2 : decode cX7_namesBoundBy 2 = .ok (.iconst 0, 1) := by decide +kernel
theorem dX7_namesBoundBy_3 : decode cX7_namesBoundBy 3 = .ok (.istore_n 3, 1) := by decide +kernel
theorem dX7_namesBoundBy_4 : decode cX7_namesBoundBy 4 = .ok (.iload_n 3, 1) := by decide +kernel
theorem dX7_namesBoundBy_5 : decode cX7_namesBoundBy 5 = .ok (.aload_n 0, 1) := by decide +kernel
theorem dX7_namesBoundBy_6 : decode cX7_namesBoundBy 6 = .ok (.getfield 16, 3) := by decide +kernel
theorem dX7_namesBoundBy_9 : decode cX7_namesBoundBy 9 = .ok (.if_icmp .ge 32, 3) := by decide +kernel
theorem dX7_namesBoundBy_12 : decode cX7_namesBoundBy 12 = .ok (.aload_n 0, 1) := by decide +kernel
theorem dX7_namesBoundBy_13 : decode cX7_namesBoundBy 13 = .ok (.iconst 0, 1) := by decide +kernel
theorem dX7_namesBoundBy_14 : decode cX7_namesBoundBy 14 = .ok (.iload_n 3, 1) := by decide +kernel
theorem dX7_namesBoundBy_15 : decode cX7_namesBoundBy 15 = .ok (.invokevirtual 32, 3) := by decide +kernel
theorem dX7_namesBoundBy_18 : decode cX7_namesBoundBy 18 = .ok (.ifCond .ne 17, 3) := by decide +kernel
theorem dX7_namesBoundBy_21 : decode cX7_namesBoundBy 21 = .ok (.aload_n 0, 1) := by decide +kernel
theorem dX7_namesBoundBy_22 : decode cX7_namesBoundBy 22 = .ok (.bipush 7, 2) := by decide +kernel
theorem dX7_namesBoundBy_24 : decode cX7_namesBoundBy 24 = .ok (.iload_n 3, 1) := by decide +kernel
theorem dX7_namesBoundBy_25 : decode cX7_namesBoundBy 25 = .ok (.invokevirtual 32, 3) := by decide +kernel
theorem dX7_namesBoundBy_28 : decode cX7_namesBoundBy 28 = .ok (.iload_n 1, 1) := by decide +kernel
theorem dX7_namesBoundBy_29 : decode cX7_namesBoundBy 29 = .ok (.if_icmp .ne 6, 3) := by decide +kernel
theorem dX7_namesBoundBy_32 : decode cX7_namesBoundBy 32 = .ok (.iinc 2 1, 3) := by decide +kernel
theorem dX7_namesBoundBy_35 : decode cX7_namesBoundBy 35 = .ok (.iinc 3 1, 3) := by decide +kernel
theorem dX7_namesBoundBy_38 : decode cX7_namesBoundBy 38 = .ok (.goto (-34), 3) := by decide +kernel
theorem dX7_namesBoundBy_41 : decode cX7_namesBoundBy 41 = .ok (.iload_n 2, 1) := by decide +kernel
theorem dX7_namesBoundBy_42 : decode cX7_namesBoundBy 42 = .ok (.ireturn, 1) := by decide +kernel
theorem dX7_binderOf_0 : decode cX7_binderOf 0 = .ok (.iload_n 1, 1) := by decide +kernel
theorem dX7_binderOf_1 : decode cX7_binderOf 1 = .ok (.istore_n 2, 1) := by decide +kernel
theorem dX7_binderOf_2 : decode cX7_binderOf 2 = .ok (.aload_n 0, 1) := by decide +kernel
theorem dX7_binderOf_3 : decode cX7_binderOf 3 = .ok (.iload_n 1, 1) := by decide +kernel
theorem dX7_binderOf_4 : decode cX7_binderOf 4 = .ok (.invokevirtual 36, 3) := by decide +kernel
theorem dX7_binderOf_7 : decode cX7_binderOf 7 = .ok (.istore_n 3, 1) := by decide +kernel
theorem dX7_binderOf_8 : decode cX7_binderOf 8 = .ok (.iload_n 3, 1) := by decide +kernel
theorem dX7_binderOf_9 : decode cX7_binderOf 9 = .ok (.ifCond .lt 75, 3) := by decide +kernel
theorem dX7_binderOf_12 : decode cX7_binderOf 12 = .ok (.aload_n 0, 1) := by decide +kernel
theorem dX7_binderOf_13 : decode cX7_binderOf 13 = .ok (.iconst 0, 1) := by decide +kernel
theorem dX7_binderOf_14 : decode cX7_binderOf 14 = .ok (.iload_n 3, 1) := by decide +kernel
theorem dX7_binderOf_15 : decode cX7_binderOf 15 = .ok (.invokevirtual 32, 3) := by decide +kernel
theorem dX7_binderOf_18 : decode cX7_binderOf 18 = .ok (.istore 4, 2) := by decide +kernel
theorem dX7_binderOf_20 : decode cX7_binderOf 20 = .ok (.iload 4, 2) := by decide +kernel
theorem dX7_binderOf_22 : decode cX7_binderOf 22 = .ok (.iconst 4, 1) := by decide +kernel
theorem dX7_binderOf_23 : decode cX7_binderOf 23 = .ok (.if_icmp .eq 19, 3) := by decide +kernel
theorem dX7_binderOf_26 : decode cX7_binderOf 26 = .ok (.iload 4, 2) := by decide +kernel
theorem dX7_binderOf_28 : decode cX7_binderOf 28 = .ok (.iconst 5, 1) := by decide +kernel
theorem dX7_binderOf_29 : decode cX7_binderOf 29 = .ok (.if_icmp .ne 17, 3) := by decide +kernel
theorem dX7_binderOf_32 : decode cX7_binderOf 32 = .ok (.aload_n 0, 1) := by decide +kernel
theorem dX7_binderOf_33 : decode cX7_binderOf 33 = .ok (.iconst 3, 1) := by decide +kernel
theorem dX7_binderOf_34 : decode cX7_binderOf 34 = .ok (.iload_n 3, 1) := by decide +kernel
theorem dX7_binderOf_35 : decode cX7_binderOf 35 = .ok (.invokevirtual 32, 3) := by decide +kernel
theorem dX7_binderOf_38 : decode cX7_binderOf 38 = .ok (.iload_n 2, 1) := by decide +kernel
theorem dX7_binderOf_39 : decode cX7_binderOf 39 = .ok (.if_icmp .ne 7, 3) := by decide +kernel
theorem dX7_binderOf_42 : decode cX7_binderOf 42 = .ok (.iconst 1, 1) := by decide +kernel
theorem dX7_binderOf_43 : decode cX7_binderOf 43 = .ok (.goto 4, 3) := by decide +kernel
theorem dX7_binderOf_46 : decode cX7_binderOf 46 = .ok (.iconst 0, 1) := by decide +kernel
theorem dX7_binderOf_47 : decode cX7_binderOf 47 = .ok (.istore 5, 2) := by decide +kernel
theorem dX7_binderOf_49 : decode cX7_binderOf 49 = .ok (.iload 5, 2) := by decide +kernel
theorem dX7_binderOf_51 : decode cX7_binderOf 51 = .ok (.ifCond .eq 22, 3) := by decide +kernel
theorem dX7_binderOf_54 : decode cX7_binderOf 54 = .ok (.aload_n 0, 1) := by decide +kernel
theorem dX7_binderOf_55 : decode cX7_binderOf 55 = .ok (.bipush 6, 2) := by decide +kernel
theorem dX7_binderOf_57 : decode cX7_binderOf 57 = .ok (.iload_n 3, 1) := by decide +kernel
theorem dX7_binderOf_58 : decode cX7_binderOf 58 = .ok (.invokevirtual 32, 3) := by decide +kernel
theorem dX7_binderOf_61 : decode cX7_binderOf 61 = .ok (.aload_n 0, 1) := by decide +kernel
theorem dX7_binderOf_62 : decode cX7_binderOf 62 = .ok (.bipush 6, 2) := by decide +kernel
theorem dX7_binderOf_64 : decode cX7_binderOf 64 = .ok (.iload_n 1, 1) := by decide +kernel
theorem dX7_binderOf_65 : decode cX7_binderOf 65 = .ok (.invokevirtual 32, 3) := by decide +kernel
theorem dX7_binderOf_68 : decode cX7_binderOf 68 = .ok (.if_icmp .ne 5, 3) := by decide +kernel
theorem dX7_binderOf_71 : decode cX7_binderOf 71 = .ok (.iload_n 3, 1) := by decide +kernel
theorem dX7_binderOf_72 : decode cX7_binderOf 72 = .ok (.ireturn, 1) := by decide +kernel
theorem dX7_binderOf_73 : decode cX7_binderOf 73 = .ok (.iload_n 3, 1) := by decide +kernel
theorem dX7_binderOf_74 : decode cX7_binderOf 74 = .ok (.istore_n 2, 1) := by decide +kernel
theorem dX7_binderOf_75 : decode cX7_binderOf 75 = .ok (.aload_n 0, 1) := by decide +kernel
theorem dX7_binderOf_76 : decode cX7_binderOf 76 = .ok (.iload_n 3, 1) := by decide +kernel
theorem dX7_binderOf_77 : decode cX7_binderOf 77 = .ok (.invokevirtual 36, 3) := by decide +kernel
theorem dX7_binderOf_80 : decode cX7_binderOf 80 = .ok (.istore_n 3, 1) := by decide +kernel
theorem dX7_binderOf_81 : decode cX7_binderOf 81 = .ok (.goto (-73), 3) := by decide +kernel
theorem dX7_binderOf_84 : decode cX7_binderOf 84 = .ok (.iconst (-1), 1) := by decide +kernel
theorem dX7_binderOf_85 : decode cX7_binderOf 85 = .ok (.ireturn, 1) := by decide +kernel
theorem dX7_isBracketed_0 : decode cX7_isBracketed 0 = .ok (.iload_n 1, 1) := by decide +kernel
theorem dX7_isBracketed_1 : decode cX7_isBracketed 1 = .ok (.ifCond .le 17, 3) := by decide +kernel
theorem dX7_isBracketed_4 : decode cX7_isBracketed 4 = .ok (.aload_n 0, 1) := by decide +kernel
theorem dX7_isBracketed_5 : decode cX7_isBracketed 5 = .ok (.iconst 0, 1) := by decide +kernel
theorem dX7_isBracketed_6 : decode cX7_isBracketed 6 = .ok (.iload_n 1, 1) := by decide +kernel
theorem dX7_isBracketed_7 : decode cX7_isBracketed 7 = .ok (.invokevirtual 32, 3) := by decide +kernel
theorem dX7_isBracketed_10 : decode cX7_isBracketed 10 = .ok (.iconst 4, 1) := by decide +kernel
theorem dX7_isBracketed_11 : decode cX7_isBracketed 11 = .ok (.if_icmp .lt 7, 3) := by decide +kernel
theorem dX7_isBracketed_14 : decode cX7_isBracketed 14 = .ok (.iconst 1, 1) := by decide +kernel
theorem dX7_isBracketed_15 : decode cX7_isBracketed 15 = .ok (.goto 4, 3) := by decide +kernel
theorem dX7_isBracketed_18 : decode cX7_isBracketed 18 = .ok (.iconst 0, 1) := by decide +kernel
theorem dX7_isBracketed_19 : decode cX7_isBracketed 19 = .ok (.ireturn, 1) := by decide +kernel
theorem dX7_write_0 : decode cX7_write 0 = .ok (.iconst 0, 1) := by decide +kernel
theorem dX7_write_1 : decode cX7_write 1 = .ok (.istore_n 2, 1) := by decide +kernel
theorem dX7_write_2 : decode cX7_write 2 = .ok (.iload_n 2, 1) := by decide +kernel
theorem dX7_write_3 : decode cX7_write 3 = .ok (.aload_n 0, 1) := by decide +kernel
theorem dX7_write_4 : decode cX7_write 4 = .ok (.getfield 16, 3) := by decide +kernel
theorem dX7_write_7 : decode cX7_write 7 = .ok (.if_icmp .ge 111, 3) := by decide +kernel
theorem dX7_write_10 : decode cX7_write 10 = .ok (.aload_n 0, 1) := by decide +kernel
theorem dX7_write_11 : decode cX7_write 11 = .ok (.iconst 0, 1) := by decide +kernel
theorem dX7_write_12 : decode cX7_write 12 = .ok (.iload_n 2, 1) := by decide +kernel
theorem dX7_write_13 : decode cX7_write 13 = .ok (.invokevirtual 32, 3) := by decide +kernel
theorem dX7_write_16 : decode cX7_write 16 = .ok (.istore_n 3, 1) := by decide +kernel
theorem dX7_write_17 : decode cX7_write 17 = .ok (.aload_n 0, 1) := by decide +kernel
theorem dX7_write_18 : decode cX7_write 18 = .ok (.iload_n 2, 1) := by decide +kernel
theorem dX7_write_19 : decode cX7_write 19 = .ok (.invokevirtual 40, 3) := by decide +kernel
theorem dX7_write_22 : decode cX7_write 22 = .ok (.ifCond .eq 10, 3) := by decide +kernel
theorem dX7_write_25 : decode cX7_write 25 = .ok (.aload_n 1, 1) := by decide +kernel
theorem dX7_write_26 : decode cX7_write 26 = .ok (.bipush 40, 2) := by decide +kernel
theorem dX7_write_28 : decode cX7_write 28 = .ok (.invokevirtual 43, 3) := by decide +kernel
theorem dX7_write_31 : decode cX7_write 31 = .ok (.pop, 1) := by decide +kernel
theorem dX7_write_32 : decode cX7_write 32 = .ok (.iload_n 3, 1) := by decide +kernel
theorem dX7_write_33 : decode cX7_write 33 = .ok (.iconst 4, 1) := by decide +kernel
theorem dX7_write_34 : decode cX7_write 34 = .ok (.if_icmp .ge 25, 3) := by decide +kernel
theorem dX7_write_37 : decode cX7_write 37 = .ok (.aload_n 1, 1) := by decide +kernel
theorem dX7_write_38 : decode cX7_write 38 = .ok (.aload_n 0, 1) := by decide +kernel
theorem dX7_write_39 : decode cX7_write 39 = .ok (.bipush 6, 2) := by decide +kernel
theorem dX7_write_41 : decode cX7_write 41 = .ok (.iload_n 2, 1) := by decide +kernel
theorem dX7_write_42 : decode cX7_write 42 = .ok (.invokevirtual 32, 3) := by decide +kernel
theorem dX7_write_45 : decode cX7_write 45 = .ok (.i2c, 1) := by decide +kernel
theorem dX7_write_46 : decode cX7_write 46 = .ok (.invokevirtual 43, 3) := by decide +kernel
theorem dX7_write_49 : decode cX7_write 49 = .ok (.pop, 1) := by decide +kernel
theorem dX7_write_50 : decode cX7_write 50 = .ok (.aload_n 0, 1) := by decide +kernel
theorem dX7_write_51 : decode cX7_write 51 = .ok (.iload_n 2, 1) := by decide +kernel
theorem dX7_write_52 : decode cX7_write 52 = .ok (.aload_n 1, 1) := by decide +kernel
theorem dX7_write_53 : decode cX7_write 53 = .ok (.invokevirtual 49, 3) := by decide +kernel
theorem dX7_write_56 : decode cX7_write 56 = .ok (.goto 56, 3) := by decide +kernel
theorem dX7_write_59 : decode cX7_write 59 = .ok (.iload_n 3, 1) := by decide +kernel
theorem dX7_write_60 : decode cX7_write 60 = .ok (.bipush 6, 2) := by decide +kernel
theorem dX7_write_62 : decode cX7_write 62 = .ok (.if_icmp .eq 50, 3) := by decide +kernel
theorem dX7_write_65 : decode cX7_write 65 = .ok (.aload_n 1, 1) := by decide +kernel
theorem dX7_write_66 : decode cX7_write 66 = .ok (.iload_n 3, 1) := by decide +kernel
theorem dX7_write_67 : decode cX7_write 67 = .ok (.iconst 4, 1) := by decide +kernel
theorem dX7_write_68 : decode cX7_write 68 = .ok (.if_icmp .ne 8, 3) := by decide +kernel
theorem dX7_write_71 : decode cX7_write 71 = .ok (.bipush 94, 2) := by decide +kernel
theorem dX7_write_73 : decode cX7_write 73 = .ok (.goto 5, 3) := by decide +kernel
theorem dX7_write_76 : decode cX7_write 76 = .ok (.bipush 33, 2) := by decide +kernel
theorem dX7_write_78 : decode cX7_write 78 = .ok (.invokevirtual 43, 3) := by decide +kernel
theorem dX7_write_81 : decode cX7_write 81 = .ok (.pop, 1) := by decide +kernel
theorem dX7_write_82 : decode cX7_write 82 = .ok (.aload_n 1, 1) := by decide +kernel
theorem dX7_write_83 : decode cX7_write 83 = .ok (.aload_n 0, 1) := by decide +kernel
theorem dX7_write_84 : decode cX7_write 84 = .ok (.bipush 6, 2) := by decide +kernel
theorem dX7_write_86 : decode cX7_write 86 = .ok (.iload_n 2, 1) := by decide +kernel
theorem dX7_write_87 : decode cX7_write 87 = .ok (.invokevirtual 32, 3) := by decide +kernel
theorem dX7_write_90 : decode cX7_write 90 = .ok (.i2c, 1) := by decide +kernel
theorem dX7_write_91 : decode cX7_write 91 = .ok (.invokevirtual 43, 3) := by decide +kernel
theorem dX7_write_94 : decode cX7_write 94 = .ok (.pop, 1) := by decide +kernel
theorem dX7_write_95 : decode cX7_write 95 = .ok (.aload_n 1, 1) := by decide +kernel
theorem dX7_write_96 : decode cX7_write 96 = .ok (.iload_n 3, 1) := by decide +kernel
theorem dX7_write_97 : decode cX7_write 97 = .ok (.iconst 4, 1) := by decide +kernel
theorem dX7_write_98 : decode cX7_write 98 = .ok (.if_icmp .ne 8, 3) := by decide +kernel
theorem dX7_write_101 : decode cX7_write 101 = .ok (.bipush 46, 2) := by decide +kernel
theorem dX7_write_103 : decode cX7_write 103 = .ok (.goto 5, 3) := by decide +kernel
theorem dX7_write_106 : decode cX7_write 106 = .ok (.bipush 61, 2) := by decide +kernel
theorem dX7_write_108 : decode cX7_write 108 = .ok (.invokevirtual 43, 3) := by decide +kernel
theorem dX7_write_111 : decode cX7_write 111 = .ok (.pop, 1) := by decide +kernel
theorem dX7_write_112 : decode cX7_write 112 = .ok (.iinc 2 1, 3) := by decide +kernel
theorem dX7_write_115 : decode cX7_write 115 = .ok (.goto (-113), 3) := by decide +kernel
theorem dX7_write_118 : decode cX7_write 118 = .ok (.return_, 1) := by decide +kernel
theorem dX7_writeEnds_0 : decode cX7_writeEnds 0 = .ok (.iload_n 1, 1) := by decide +kernel
theorem dX7_writeEnds_1 : decode cX7_writeEnds 1 = .ok (.istore_n 3, 1) := by decide +kernel
theorem dX7_writeEnds_2 : decode cX7_writeEnds 2 = .ok (.aload_n 0, 1) := by decide +kernel
theorem dX7_writeEnds_3 : decode cX7_writeEnds 3 = .ok (.iload_n 1, 1) := by decide +kernel
theorem dX7_writeEnds_4 : decode cX7_writeEnds 4 = .ok (.invokevirtual 36, 3) := by decide +kernel
theorem dX7_writeEnds_7 : decode cX7_writeEnds 7 = .ok (.istore 4, 2) := by decide +kernel
theorem dX7_writeEnds_9 : decode cX7_writeEnds 9 = .ok (.iload 4, 2) := by decide +kernel
theorem dX7_writeEnds_11 : decode cX7_writeEnds 11 = .ok (.ifCond .lt 63, 3) := by decide +kernel
theorem dX7_writeEnds_14 : decode cX7_writeEnds 14 = .ok (.aload_n 0, 1) := by decide +kernel
theorem dX7_writeEnds_15 : decode cX7_writeEnds 15 = .ok (.iconst 3, 1) := by decide +kernel
theorem dX7_writeEnds_16 : decode cX7_writeEnds 16 = .ok (.iload 4, 2) := by decide +kernel
theorem dX7_writeEnds_18 : decode cX7_writeEnds 18 = .ok (.invokevirtual 32, 3) := by decide +kernel
theorem dX7_writeEnds_21 : decode cX7_writeEnds 21 = .ok (.iload_n 3, 1) := by decide +kernel
theorem dX7_writeEnds_22 : decode cX7_writeEnds 22 = .ok (.if_icmp .le 22, 3) := by decide +kernel
theorem dX7_writeEnds_25 : decode cX7_writeEnds 25 = .ok (.aload_n 0, 1) := by decide +kernel
theorem dX7_writeEnds_26 : decode cX7_writeEnds 26 = .ok (.iconst 0, 1) := by decide +kernel
theorem dX7_writeEnds_27 : decode cX7_writeEnds 27 = .ok (.iload 4, 2) := by decide +kernel
theorem dX7_writeEnds_29 : decode cX7_writeEnds 29 = .ok (.invokevirtual 32, 3) := by decide +kernel
theorem dX7_writeEnds_32 : decode cX7_writeEnds 32 = .ok (.iconst 5, 1) := by decide +kernel
theorem dX7_writeEnds_33 : decode cX7_writeEnds 33 = .ok (.if_icmp .ne 10, 3) := by decide +kernel
theorem dX7_writeEnds_36 : decode cX7_writeEnds 36 = .ok (.aload_n 2, 1) := by decide +kernel
theorem dX7_writeEnds_37 : decode cX7_writeEnds 37 = .ok (.bipush 59, 2) := by decide +kernel
theorem dX7_writeEnds_39 : decode cX7_writeEnds 39 = .ok (.invokevirtual 43, 3) := by decide +kernel
theorem dX7_writeEnds_42 : decode cX7_writeEnds 42 = .ok (.pop, 1) := by decide +kernel
theorem dX7_writeEnds_43 : decode cX7_writeEnds 43 = .ok (.return_, 1) := by decide +kernel
theorem dX7_writeEnds_44 : decode cX7_writeEnds 44 = .ok (.aload_n 0, 1) := by decide +kernel
theorem dX7_writeEnds_45 : decode cX7_writeEnds 45 = .ok (.iload 4, 2) := by decide +kernel
theorem dX7_writeEnds_47 : decode cX7_writeEnds 47 = .ok (.invokevirtual 40, 3) := by decide +kernel
theorem dX7_writeEnds_50 : decode cX7_writeEnds 50 = .ok (.ifCond .eq 10, 3) := by decide +kernel
theorem dX7_writeEnds_53 : decode cX7_writeEnds 53 = .ok (.aload_n 2, 1) := by decide +kernel
theorem dX7_writeEnds_54 : decode cX7_writeEnds 54 = .ok (.bipush 41, 2) := by decide +kernel
theorem dX7_writeEnds_56 : decode cX7_writeEnds 56 = .ok (.invokevirtual 43, 3) := by decide +kernel
theorem dX7_writeEnds_59 : decode cX7_writeEnds 59 = .ok (.pop, 1) := by decide +kernel
theorem dX7_writeEnds_60 : decode cX7_writeEnds 60 = .ok (.iload 4, 2) := by decide +kernel
theorem dX7_writeEnds_62 : decode cX7_writeEnds 62 = .ok (.istore_n 3, 1) := by decide +kernel
theorem dX7_writeEnds_63 : decode cX7_writeEnds 63 = .ok (.aload_n 0, 1) := by decide +kernel
theorem dX7_writeEnds_64 : decode cX7_writeEnds 64 = .ok (.iload 4, 2) := by decide +kernel
theorem dX7_writeEnds_66 : decode cX7_writeEnds 66 = .ok (.invokevirtual 36, 3) := by decide +kernel
theorem dX7_writeEnds_69 : decode cX7_writeEnds 69 = .ok (.istore 4, 2) := by decide +kernel
theorem dX7_writeEnds_71 : decode cX7_writeEnds 71 = .ok (.goto (-62), 3) := by decide +kernel
theorem dX7_writeEnds_74 : decode cX7_writeEnds 74 = .ok (.return_, 1) := by decide +kernel
theorem dX8_init_0 : decode cX8_init 0 = .ok (.aload_n 0, 1) := by decide +kernel
theorem dX8_init_1 : decode cX8_init 1 = .ok (.invokespecial 3, 3) := by decide +kernel
theorem dX8_init_4 : decode cX8_init 4 = .ok (.aload_n 0, 1) := by decide +kernel
theorem dX8_init_5 : decode cX8_init 5 = .ok (.bipush 60, 2) := by decide +kernel
theorem dX8_init_7 : decode cX8_init 7 = .ok (.newarray .int, 2) := by decide +kernel
theorem dX8_init_9 : decode cX8_init 9 = .ok (.putfield 9, 3) := by decide +kernel
theorem dX8_init_12 : decode cX8_init 12 = .ok (.aload_n 0, 1) := by decide +kernel
theorem dX8_init_13 : decode cX8_init 13 = .ok (.sipush 240, 3) := by decide +kernel
theorem dX8_init_16 : decode cX8_init 16 = .ok (.newarray .int, 2) := by decide +kernel
theorem dX8_init_18 : decode cX8_init 18 = .ok (.putfield 15, 3) := by decide +kernel
theorem dX8_init_21 : decode cX8_init 21 = .ok (.return_, 1) := by decide +kernel
theorem dX8_faultIn_0 : decode cX8_faultIn 0 = .ok (.aload_n 0, 1) := by decide +kernel
theorem dX8_faultIn_1 : decode cX8_faultIn 1 = .ok (.iconst 0, 1) := by decide +kernel
theorem dX8_faultIn_2 : decode cX8_faultIn 2 = .ok (.putfield 18, 3) := by decide +kernel
theorem dX8_faultIn_5 : decode cX8_faultIn 5 = .ok (.iconst 0, 1) := by decide +kernel
theorem dX8_faultIn_6 : decode cX8_faultIn 6 = .ok (.istore_n 2, 1) := by decide +kernel
theorem dX8_faultIn_7 : decode cX8_faultIn 7 = .ok (.iconst 0, 1) := by decide +kernel
theorem dX8_faultIn_8 : decode cX8_faultIn 8 = .ok (.istore_n 3, 1) := by decide +kernel
theorem dX8_faultIn_9 : decode cX8_faultIn 9 = .ok (.iload_n 3, 1) := by decide +kernel
theorem dX8_faultIn_10 : decode cX8_faultIn 10 = .ok (.aload_n 1, 1) := by decide +kernel
theorem dX8_faultIn_11 : decode cX8_faultIn 11 = .ok (.invokevirtual 22, 3) := by decide +kernel
theorem dX8_faultIn_14 : decode cX8_faultIn 14 = .ok (.if_icmp .ge 28, 3) := by decide +kernel
theorem dX8_faultIn_17 : decode cX8_faultIn 17 = .ok (.aload_n 0, 1) := by decide +kernel
theorem dX8_faultIn_18 : decode cX8_faultIn 18 = .ok (.iload_n 2, 1) := by decide +kernel
theorem dX8_faultIn_19 : decode cX8_faultIn 19 = .ok (.aload_n 1, 1) := by decide +kernel
theorem dX8_faultIn_20 : decode cX8_faultIn 20 = .ok (.iload_n 3, 1) := by decide +kernel
theorem dX8_faultIn_21 : decode cX8_faultIn 21 = .ok (.invokevirtual 28, 3) := by decide +kernel
theorem dX8_faultIn_24 : decode cX8_faultIn 24 = .ok (.invokevirtual 32, 3) := by decide +kernel
theorem dX8_faultIn_27 : decode cX8_faultIn 27 = .ok (.istore_n 2, 1) := by decide +kernel
theorem dX8_faultIn_28 : decode cX8_faultIn 28 = .ok (.iload_n 2, 1) := by decide +kernel
theorem dX8_faultIn_29 : decode cX8_faultIn 29 = .ok (.bipush 6, 2) := by decide +kernel
theorem dX8_faultIn_31 : decode cX8_faultIn 31 = .ok (.if_icmp .ne 5, 3) := by decide +kernel
theorem dX8_faultIn_34 : decode cX8_faultIn 34 = .ok (.iload_n 3, 1) := by decide +kernel
theorem dX8_faultIn_35 : decode cX8_faultIn 35 = .ok (.ireturn, 1) := by decide +kernel
theorem dX8_faultIn_36 : decode cX8_faultIn 36 = .ok (.iinc 3 1, 3) := by decide +kernel
theorem dX8_faultIn_39 : decode cX8_faultIn 39 = .ok (.goto (-30), 3) := by decide +kernel
theorem dX8_faultIn_42 : decode cX8_faultIn 42 = .ok (.iload_n 2, 1) := by decide +kernel
theorem dX8_faultIn_43 : decode cX8_faultIn 43 = .ok (.iconst 5, 1) := by decide +kernel
theorem dX8_faultIn_44 : decode cX8_faultIn 44 = .ok (.if_icmp .ne 14, 3) := by decide +kernel
theorem dX8_faultIn_47 : decode cX8_faultIn 47 = .ok (.aload_n 0, 1) := by decide +kernel
theorem dX8_faultIn_48 : decode cX8_faultIn 48 = .ok (.getfield 18, 3) := by decide +kernel
theorem dX8_faultIn_51 : decode cX8_faultIn 51 = .ok (.ifCond .ne 7, 3) := by decide +kernel
theorem dX8_faultIn_54 : decode cX8_faultIn 54 = .ok (.iconst (-1), 1) := by decide +kernel
theorem dX8_faultIn_55 : decode cX8_faultIn 55 = .ok (.goto 7, 3) := by decide +kernel
theorem dX8_faultIn_58 : decode cX8_faultIn 58 = .ok (.aload_n 1, 1) := by decide +kernel
theorem dX8_faultIn_59 : decode cX8_faultIn 59 = .ok (.invokevirtual 22, 3) := by decide +kernel
theorem dX8_faultIn_62 : decode cX8_faultIn 62 = .ok (.ireturn, 1) := by decide +kernel
theorem dX8_placeBehind_0 : decode cX8_placeBehind 0 = .ok (.iload_n 1, 1) := by decide +kernel
theorem dX8_placeBehind_1 : decode cX8_placeBehind 1 = .ok (.tableswitch 120 0 4 #[35, 61, 75, 88, 102], 35) := by decide +kernel
theorem dX8_placeBehind_36 : decode cX8_placeBehind 36 = .ok (.iload_n 2, 1) := by decide +kernel
theorem dX8_placeBehind_37 : decode cX8_placeBehind 37 = .ok (.bipush 94, 2) := by decide +kernel
theorem dX8_placeBehind_39 : decode cX8_placeBehind 39 = .ok (.if_icmp .ne 7, 3) := by decide +kernel
theorem dX8_placeBehind_42 : decode cX8_placeBehind 42 = .ok (.iconst 1, 1) := by decide +kernel
theorem dX8_placeBehind_43 : decode cX8_placeBehind 43 = .ok (.goto 18, 3) := by decide +kernel
theorem dX8_placeBehind_46 : decode cX8_placeBehind 46 = .ok (.iload_n 2, 1) := by decide +kernel
theorem dX8_placeBehind_47 : decode cX8_placeBehind 47 = .ok (.bipush 33, 2) := by decide +kernel
theorem dX8_placeBehind_49 : decode cX8_placeBehind 49 = .ok (.if_icmp .ne 7, 3) := by decide +kernel
theorem dX8_placeBehind_52 : decode cX8_placeBehind 52 = .ok (.iconst 3, 1) := by decide +kernel
theorem dX8_placeBehind_53 : decode cX8_placeBehind 53 = .ok (.goto 8, 3) := by decide +kernel
theorem dX8_placeBehind_56 : decode cX8_placeBehind 56 = .ok (.aload_n 0, 1) := by decide +kernel
theorem dX8_placeBehind_57 : decode cX8_placeBehind 57 = .ok (.iload_n 2, 1) := by decide +kernel
theorem dX8_placeBehind_58 : decode cX8_placeBehind 58 = .ok (.invokevirtual 36, 3) := by decide +kernel
theorem dX8_placeBehind_61 : decode cX8_placeBehind 61 = .ok (.ireturn, 1) := by decide +kernel
theorem dX8_placeBehind_62 : decode cX8_placeBehind 62 = .ok (.iload_n 2, 1) := by decide +kernel
theorem dX8_placeBehind_63 : decode cX8_placeBehind 63 = .ok (.invokestatic 40, 3) := by decide +kernel
theorem dX8_placeBehind_66 : decode cX8_placeBehind 66 = .ok (.ifCond .eq 7, 3) := by decide +kernel
theorem dX8_placeBehind_69 : decode cX8_placeBehind 69 = .ok (.iconst 2, 1) := by decide +kernel
theorem dX8_placeBehind_70 : decode cX8_placeBehind 70 = .ok (.goto 5, 3) := by decide +kernel
theorem dX8_placeBehind_73 : decode cX8_placeBehind 73 = .ok (.bipush 6, 2) := by decide +kernel
theorem dX8_placeBehind_75 : decode cX8_placeBehind 75 = .ok (.ireturn, 1) := by decide +kernel
theorem dX8_placeBehind_76 : decode cX8_placeBehind 76 = .ok (.iload_n 2, 1) := by decide +kernel
theorem dX8_placeBehind_77 : decode cX8_placeBehind 77 = .ok (.bipush 46, 2) := by decide +kernel
theorem dX8_placeBehind_79 : decode cX8_placeBehind 79 = .ok (.if_icmp .ne 7, 3) := by decide +kernel
theorem dX8_placeBehind_82 : decode cX8_placeBehind 82 = .ok (.iconst 0, 1) := by decide +kernel
theorem dX8_placeBehind_83 : decode cX8_placeBehind 83 = .ok (.goto 5, 3) := by decide +kernel
theorem dX8_placeBehind_86 : decode cX8_placeBehind 86 = .ok (.bipush 6, 2) := by decide +kernel
theorem dX8_placeBehind_88 : decode cX8_placeBehind 88 = .ok (.ireturn, 1) := by decide +kernel
theorem dX8_placeBehind_89 : decode cX8_placeBehind 89 = .ok (.iload_n 2, 1) := by decide +kernel
theorem dX8_placeBehind_90 : decode cX8_placeBehind 90 = .ok (.invokestatic 40, 3) := by decide +kernel
theorem dX8_placeBehind_93 : decode cX8_placeBehind 93 = .ok (.ifCond .eq 7, 3) := by decide +kernel
theorem dX8_placeBehind_96 : decode cX8_placeBehind 96 = .ok (.iconst 4, 1) := by decide +kernel
theorem dX8_placeBehind_97 : decode cX8_placeBehind 97 = .ok (.goto 5, 3) := by decide +kernel
theorem dX8_placeBehind_100 : decode cX8_placeBehind 100 = .ok (.bipush 6, 2) := by decide +kernel
theorem dX8_placeBehind_102 : decode cX8_placeBehind 102 = .ok (.ireturn, 1) := by decide +kernel
theorem dX8_placeBehind_103 : decode cX8_placeBehind 103 = .ok (.iload_n 2, 1) := by decide +kernel
theorem dX8_placeBehind_104 : decode cX8_placeBehind 104 = .ok (.bipush 61, 2) := by decide +kernel
theorem dX8_placeBehind_106 : decode cX8_placeBehind 106 = .ok (.if_icmp .ne 12, 3) := by decide +kernel
theorem dX8_placeBehind_109 : decode cX8_placeBehind 109 = .ok (.aload_n 0, 1) := by decide +kernel
theorem dX8_placeBehind_110 : decode cX8_placeBehind 110 = .ok (.bipush 61, 2) := by decide +kernel
theorem dX8_placeBehind_112 : decode cX8_placeBehind 112 = .ok (.invokevirtual 44, 3) := by decide +kernel
theorem dX8_placeBehind_115 : decode cX8_placeBehind 115 = .ok (.goto 5, 3) := by decide +kernel
theorem dX8_placeBehind_118 : decode cX8_placeBehind 118 = .ok (.bipush 6, 2) := by decide +kernel
theorem dX8_placeBehind_120 : decode cX8_placeBehind 120 = .ok (.ireturn, 1) := by decide +kernel
theorem dX8_placeBehind_121 : decode cX8_placeBehind 121 = .ok (.iload_n 2, 1) := by decide +kernel
theorem dX8_placeBehind_122 : decode cX8_placeBehind 122 = .ok (.bipush 41, 2) := by decide +kernel
theorem dX8_placeBehind_124 : decode cX8_placeBehind 124 = .ok (.if_icmp .ne 13, 3) := by decide +kernel
theorem dX8_placeBehind_127 : decode cX8_placeBehind 127 = .ok (.aload_n 0, 1) := by decide +kernel
theorem dX8_placeBehind_128 : decode cX8_placeBehind 128 = .ok (.bipush 40, 2) := by decide +kernel
theorem dX8_placeBehind_130 : decode cX8_placeBehind 130 = .ok (.iconst 5, 1) := by decide +kernel
theorem dX8_placeBehind_131 : decode cX8_placeBehind 131 = .ok (.invokevirtual 47, 3) := by decide +kernel
theorem dX8_placeBehind_134 : decode cX8_placeBehind 134 = .ok (.goto 24, 3) := by decide +kernel
theorem dX8_placeBehind_137 : decode cX8_placeBehind 137 = .ok (.iload_n 2, 1) := by decide +kernel
theorem dX8_placeBehind_138 : decode cX8_placeBehind 138 = .ok (.bipush 59, 2) := by decide +kernel
theorem dX8_placeBehind_140 : decode cX8_placeBehind 140 = .ok (.if_icmp .ne 13, 3) := by decide +kernel
theorem dX8_placeBehind_143 : decode cX8_placeBehind 143 = .ok (.aload_n 0, 1) := by decide +kernel
theorem dX8_placeBehind_144 : decode cX8_placeBehind 144 = .ok (.bipush 61, 2) := by decide +kernel
theorem dX8_placeBehind_146 : decode cX8_placeBehind 146 = .ok (.iconst 0, 1) := by decide +kernel
theorem dX8_placeBehind_147 : decode cX8_placeBehind 147 = .ok (.invokevirtual 47, 3) := by decide +kernel
theorem dX8_placeBehind_150 : decode cX8_placeBehind 150 = .ok (.goto 8, 3) := by decide +kernel
theorem dX8_placeBehind_153 : decode cX8_placeBehind 153 = .ok (.aload_n 0, 1) := by decide +kernel
theorem dX8_placeBehind_154 : decode cX8_placeBehind 154 = .ok (.iload_n 2, 1) := by decide +kernel
theorem dX8_placeBehind_155 : decode cX8_placeBehind 155 = .ok (.invokevirtual 36, 3) := by decide +kernel
theorem dX8_placeBehind_158 : decode cX8_placeBehind 158 = .ok (.ireturn, 1) := by decide +kernel
theorem dX8_placeBehindPart_0 : decode cX8_placeBehindPart 0 = .ok (.iload_n 1, 1) := by decide +kernel
theorem dX8_placeBehindPart_1 : decode cX8_placeBehindPart 1 = .ok (.bipush 40, 2) := by decide +kernel
theorem dX8_placeBehindPart_3 : decode cX8_placeBehindPart 3 = .ok (.if_icmp .ne 12, 3) := by decide +kernel
theorem dX8_placeBehindPart_6 : decode cX8_placeBehindPart 6 = .ok (.aload_n 0, 1) := by decide +kernel
theorem dX8_placeBehindPart_7 : decode cX8_placeBehindPart 7 = .ok (.bipush 40, 2) := by decide +kernel
theorem dX8_placeBehindPart_9 : decode cX8_placeBehindPart 9 = .ok (.invokevirtual 44, 3) := by decide +kernel
theorem dX8_placeBehindPart_12 : decode cX8_placeBehindPart 12 = .ok (.goto 16, 3) := by decide +kernel
theorem dX8_placeBehindPart_15 : decode cX8_placeBehindPart 15 = .ok (.iload_n 1, 1) := by decide +kernel
theorem dX8_placeBehindPart_16 : decode cX8_placeBehindPart 16 = .ok (.invokestatic 51, 3) := by decide +kernel
theorem dX8_placeBehindPart_19 : decode cX8_placeBehindPart 19 = .ok (.ifCond .lt 7, 3) := by decide +kernel
theorem dX8_placeBehindPart_22 : decode cX8_placeBehindPart 22 = .ok (.iconst 5, 1) := by decide +kernel
theorem dX8_placeBehindPart_23 : decode cX8_placeBehindPart 23 = .ok (.goto 5, 3) := by decide +kernel
theorem dX8_placeBehindPart_26 : decode cX8_placeBehindPart 26 = .ok (.bipush 6, 2) := by decide +kernel
theorem dX8_placeBehindPart_28 : decode cX8_placeBehindPart 28 = .ok (.ireturn, 1) := by decide +kernel
theorem dX8_placeInside_0 : decode cX8_placeInside 0 = .ok (.aload_n 0, 1) := by decide +kernel
theorem dX8_placeInside_1 : decode cX8_placeInside 1 = .ok (.getfield 9, 3) := by decide +kernel
theorem dX8_placeInside_4 : decode cX8_placeInside 4 = .ok (.aload_n 0, 1) := by decide +kernel
theorem dX8_placeInside_5 : decode cX8_placeInside 5 = .ok (.getfield 18, 3) := by decide +kernel
theorem dX8_placeInside_8 : decode cX8_placeInside 8 = .ok (.iload_n 1, 1) := by decide +kernel
theorem dX8_placeInside_9 : decode cX8_placeInside 9 = .ok (.invokestatic 54, 3) := by decide +kernel
theorem dX8_placeInside_12 : decode cX8_placeInside 12 = .ok (.aload_n 0, 1) := by decide +kernel
theorem dX8_placeInside_13 : decode cX8_placeInside 13 = .ok (.dup, 1) := by decide +kernel
theorem dX8_placeInside_14 : decode cX8_placeInside 14 = .ok (.getfield 18, 3) := by decide +kernel
theorem dX8_placeInside_17 : decode cX8_placeInside 17 = .ok (.iconst 1, 1) := by decide +kernel
theorem dX8_placeInside_18 : decode cX8_placeInside 18 = .ok (.iadd, 1) := by decide +kernel
theorem dX8_placeInside_19 : decode cX8_placeInside 19 = .ok (.putfield 18, 3) := by decide +kernel
theorem dX8_placeInside_22 : decode cX8_placeInside 22 = .ok (.iconst 0, 1) := by decide +kernel
theorem dX8_placeInside_23 : decode cX8_placeInside 23 = .ok (.ireturn, 1) := by decide +kernel
theorem dX8_placeOutside_0 : decode cX8_placeOutside 0 = .ok (.aload_n 0, 1) := by decide +kernel
theorem dX8_placeOutside_1 : decode cX8_placeOutside 1 = .ok (.getfield 9, 3) := by decide +kernel
theorem dX8_placeOutside_4 : decode cX8_placeOutside 4 = .ok (.aload_n 0, 1) := by decide +kernel
theorem dX8_placeOutside_5 : decode cX8_placeOutside 5 = .ok (.getfield 18, 3) := by decide +kernel
theorem dX8_placeOutside_8 : decode cX8_placeOutside 8 = .ok (.iconst 1, 1) := by decide +kernel
theorem dX8_placeOutside_9 : decode cX8_placeOutside 9 = .ok (.isub, 1) := by decide +kernel
theorem dX8_placeOutside_10 : decode cX8_placeOutside 10 = .ok (.invokestatic 58, 3) := by decide +kernel
theorem dX8_placeOutside_13 : decode cX8_placeOutside 13 = .ok (.iload_n 1, 1) := by decide +kernel
theorem dX8_placeOutside_14 : decode cX8_placeOutside 14 = .ok (.if_icmp .eq 6, 3) := by decide +kernel
theorem dX8_placeOutside_17 : decode cX8_placeOutside 17 = .ok (.bipush 6, 2) := by decide +kernel
theorem dX8_placeOutside_19 : decode cX8_placeOutside 19 = .ok (.ireturn, 1) := by decide +kernel
theorem dX8_placeOutside_20 : decode cX8_placeOutside 20 = .ok (.aload_n 0, 1) := by decide +kernel
theorem dX8_placeOutside_21 : decode cX8_placeOutside 21 = .ok (.dup, 1) := by decide +kernel
theorem dX8_placeOutside_22 : decode cX8_placeOutside 22 = .ok (.getfield 18, 3) := by decide +kernel
theorem dX8_placeOutside_25 : decode cX8_placeOutside 25 = .ok (.iconst 1, 1) := by decide +kernel
theorem dX8_placeOutside_26 : decode cX8_placeOutside 26 = .ok (.isub, 1) := by decide +kernel
theorem dX8_placeOutside_27 : decode cX8_placeOutside 27 = .ok (.putfield 18, 3) := by decide +kernel
theorem dX8_placeOutside_30 : decode cX8_placeOutside 30 = .ok (.iload_n 2, 1) := by decide +kernel
theorem dX8_placeOutside_31 : decode cX8_placeOutside 31 = .ok (.ireturn, 1) := by decide +kernel
theorem dX8_kindOf_0 : decode cX8_kindOf 0 = .ok (.iload_n 0, 1) := by decide +kernel
theorem dX8_kindOf_1 : decode cX8_kindOf 1 = .ok (.invokestatic 40, 3) := by decide +kernel
theorem dX8_kindOf_4 : decode cX8_kindOf 4 = .ok (.ifCond .eq 7, 3) := by decide +kernel
theorem dX8_kindOf_7 : decode cX8_kindOf 7 = .ok (.iconst 0, 1) := by decide +kernel
theorem dX8_kindOf_8 : decode cX8_kindOf 8 = .ok (.goto 48, 3) := by decide +kernel
theorem dX8_kindOf_11 : decode cX8_kindOf 11 = .ok (.iload_n 0, 1) := by decide +kernel
theorem dX8_kindOf_12 : decode cX8_kindOf 12 = .ok (.invokestatic 62, 3) := by decide +kernel
theorem dX8_kindOf_15 : decode cX8_kindOf 15 = .ok (.ifCond .eq 7, 3) := by decide +kernel
theorem dX8_kindOf_18 : decode cX8_kindOf 18 = .ok (.iconst 1, 1) := by decide +kernel
theorem dX8_kindOf_19 : decode cX8_kindOf 19 = .ok (.goto 37, 3) := by decide +kernel
theorem dX8_kindOf_22 : decode cX8_kindOf 22 = .ok (.iload_n 0, 1) := by decide +kernel
theorem dX8_kindOf_23 : decode cX8_kindOf 23 = .ok (.invokestatic 65, 3) := by decide +kernel
theorem dX8_kindOf_26 : decode cX8_kindOf 26 = .ok (.ifCond .eq 7, 3) := by decide +kernel
theorem dX8_kindOf_29 : decode cX8_kindOf 29 = .ok (.iconst 2, 1) := by decide +kernel
theorem dX8_kindOf_30 : decode cX8_kindOf 30 = .ok (.goto 26, 3) := by decide +kernel
theorem dX8_kindOf_33 : decode cX8_kindOf 33 = .ok (.iload_n 0, 1) := by decide +kernel
theorem dX8_kindOf_34 : decode cX8_kindOf 34 = .ok (.bipush 43, 2) := by decide +kernel
theorem dX8_kindOf_36 : decode cX8_kindOf 36 = .ok (.if_icmp .eq 15, 3) := by decide +kernel
theorem dX8_kindOf_39 : decode cX8_kindOf 39 = .ok (.iload_n 0, 1) := by decide +kernel
theorem dX8_kindOf_40 : decode cX8_kindOf 40 = .ok (.bipush 60, 2) := by decide +kernel
theorem dX8_kindOf_42 : decode cX8_kindOf 42 = .ok (.if_icmp .eq 9, 3) := by decide +kernel
theorem dX8_kindOf_45 : decode cX8_kindOf 45 = .ok (.iload_n 0, 1) := by decide +kernel
theorem dX8_kindOf_46 : decode cX8_kindOf 46 = .ok (.bipush 63, 2) := by decide +kernel
theorem dX8_kindOf_48 : decode cX8_kindOf 48 = .ok (.if_icmp .ne 7, 3) := by decide +kernel
theorem dX8_kindOf_51 : decode cX8_kindOf 51 = .ok (.iconst 3, 1) := by decide +kernel
theorem dX8_kindOf_52 : decode cX8_kindOf 52 = .ok (.goto 4, 3) := by decide +kernel
theorem dX8_kindOf_55 : decode cX8_kindOf 55 = .ok (.iconst (-1), 1) := by decide +kernel
theorem dX8_kindOf_56 : decode cX8_kindOf 56 = .ok (.ireturn, 1) := by decide +kernel
theorem dX8_read_0 : decode cX8_read 0 = .ok (.new 68, 3) := by decide +kernel
theorem dX8_read_3 : decode cX8_read 3 = .ok (.dup, 1) := by decide +kernel
theorem dX8_read_4 : decode cX8_read 4 = .ok (.iconst 2, 1) := by decide +kernel
theorem dX8_read_5 : decode cX8_read 5 = .ok (.aload_n 1, 1) := by decide +kernel
theorem dX8_read_6 : decode cX8_read 6 = .ok (.invokevirtual 22, 3) := by decide +kernel
theorem dX8_read_9 : decode cX8_read 9 = .ok (.imul, 1) := by decide +kernel
theorem dX8_read_10 : decode cX8_read 10 = .ok (.invokespecial 70, 3) := by decide +kernel
theorem dX8_read_13 : decode cX8_read 13 = .ok (.astore_n 2, 1) := by decide +kernel
theorem dX8_read_14 : decode cX8_read 14 = .ok (.aload_n 0, 1) := by decide +kernel
theorem dX8_read_15 : decode cX8_read 15 = .ok (.iconst 0, 1) := by decide +kernel
theorem dX8_read_16 : decode cX8_read 16 = .ok (.putfield 73, 3) := by decide +kernel
theorem dX8_read_19 : decode cX8_read 19 = .ok (.iconst 1, 1) := by decide +kernel
theorem dX8_read_20 : decode cX8_read 20 = .ok (.istore_n 3, 1) := by decide +kernel
theorem dX8_read_21 : decode cX8_read 21 = .ok (.iconst 0, 1) := by decide +kernel
theorem dX8_read_22 : decode cX8_read 22 = .ok (.istore 4, 2) := by decide +kernel
theorem dX8_read_24 : decode cX8_read 24 = .ok (.iload 4, 2) := by decide +kernel
theorem dX8_read_26 : decode cX8_read 26 = .ok (.aload_n 1, 1) := by decide +kernel
theorem dX8_read_27 : decode cX8_read 27 = .ok (.invokevirtual 22, 3) := by decide +kernel
theorem dX8_read_30 : decode cX8_read 30 = .ok (.if_icmp .ge 154, 3) := by decide +kernel
theorem dX8_read_33 : decode cX8_read 33 = .ok (.aload_n 1, 1) := by decide +kernel
theorem dX8_read_34 : decode cX8_read 34 = .ok (.iload 4, 2) := by decide +kernel
theorem dX8_read_36 : decode cX8_read 36 = .ok (.invokevirtual 28, 3) := by decide +kernel
theorem dX8_read_39 : decode cX8_read 39 = .ok (.istore 5, 2) := by decide +kernel
theorem dX8_read_41 : decode cX8_read 41 = .ok (.iload 5, 2) := by decide +kernel
theorem dX8_read_43 : decode cX8_read 43 = .ok (.bipush 94, 2) := by decide +kernel
theorem dX8_read_45 : decode cX8_read 45 = .ok (.if_icmp .eq 10, 3) := by decide +kernel
theorem dX8_read_48 : decode cX8_read 48 = .ok (.iload 5, 2) := by decide +kernel
theorem dX8_read_50 : decode cX8_read 50 = .ok (.bipush 33, 2) := by decide +kernel
theorem dX8_read_52 : decode cX8_read 52 = .ok (.if_icmp .ne 7, 3) := by decide +kernel
theorem dX8_read_55 : decode cX8_read 55 = .ok (.iconst 1, 1) := by decide +kernel
theorem dX8_read_56 : decode cX8_read 56 = .ok (.goto 4, 3) := by decide +kernel
theorem dX8_read_59 : decode cX8_read 59 = .ok (.iconst 0, 1) := by decide +kernel
theorem dX8_read_60 : decode cX8_read 60 = .ok (.istore 6, 2) := by decide +kernel
theorem dX8_read_62 : decode cX8_read 62 = .ok (.iload_n 3, 1) := by decide +kernel
theorem dX8_read_63 : decode cX8_read 63 = .ok (.ifCond .eq 21, 3) := by decide +kernel
theorem dX8_read_66 : decode cX8_read 66 = .ok (.iload 6, 2) := by decide +kernel
theorem dX8_read_68 : decode cX8_read 68 = .ok (.ifCond .ne 16, 3) := by decide +kernel
theorem dX8_read_71 : decode cX8_read 71 = .ok (.aload_n 0, 1) := by decide +kernel
theorem dX8_read_72 : decode cX8_read 72 = .ok (.aload_n 2, 1) := by decide +kernel
theorem dX8_read_73 : decode cX8_read 73 = .ok (.aload_n 1, 1) := by decide +kernel
theorem dX8_read_74 : decode cX8_read 74 = .ok (.iload 4, 2) := by decide +kernel
theorem dX8_read_76 : decode cX8_read 76 = .ok (.invokestatic 76, 3) := by decide +kernel
theorem dX8_read_79 : decode cX8_read 79 = .ok (.iconst 1, 1) := by decide +kernel
theorem dX8_read_80 : decode cX8_read 80 = .ok (.isub, 1) := by decide +kernel
theorem dX8_read_81 : decode cX8_read 81 = .ok (.invokevirtual 80, 3) := by decide +kernel
theorem dX8_read_84 : decode cX8_read 84 = .ok (.iload 6, 2) := by decide +kernel
theorem dX8_read_86 : decode cX8_read 86 = .ok (.ifCond .eq 33, 3) := by decide +kernel
theorem dX8_read_89 : decode cX8_read 89 = .ok (.aload_n 0, 1) := by decide +kernel
theorem dX8_read_90 : decode cX8_read 90 = .ok (.aload_n 2, 1) := by decide +kernel
theorem dX8_read_91 : decode cX8_read 91 = .ok (.iload 5, 2) := by decide +kernel
theorem dX8_read_93 : decode cX8_read 93 = .ok (.bipush 94, 2) := by decide +kernel
theorem dX8_read_95 : decode cX8_read 95 = .ok (.if_icmp .ne 7, 3) := by decide +kernel
theorem dX8_read_98 : decode cX8_read 98 = .ok (.iconst 4, 1) := by decide +kernel
theorem dX8_read_99 : decode cX8_read 99 = .ok (.goto 4, 3) := by decide +kernel
theorem dX8_read_102 : decode cX8_read 102 = .ok (.iconst 5, 1) := by decide +kernel
theorem dX8_read_103 : decode cX8_read 103 = .ok (.aload_n 1, 1) := by decide +kernel
theorem dX8_read_104 : decode cX8_read 104 = .ok (.iload 4, 2) := by decide +kernel
theorem dX8_read_106 : decode cX8_read 106 = .ok (.iconst 1, 1) := by decide +kernel
theorem dX8_read_107 : decode cX8_read 107 = .ok (.iadd, 1) := by decide +kernel
theorem dX8_read_108 : decode cX8_read 108 = .ok (.invokestatic 84, 3) := by decide +kernel
theorem dX8_read_111 : decode cX8_read 111 = .ok (.iload 4, 2) := by decide +kernel
theorem dX8_read_113 : decode cX8_read 113 = .ok (.invokevirtual 88, 3) := by decide +kernel
theorem dX8_read_116 : decode cX8_read 116 = .ok (.goto 25, 3) := by decide +kernel
theorem dX8_read_119 : decode cX8_read 119 = .ok (.iload 5, 2) := by decide +kernel
theorem dX8_read_121 : decode cX8_read 121 = .ok (.invokestatic 51, 3) := by decide +kernel
theorem dX8_read_124 : decode cX8_read 124 = .ok (.ifCond .lt 17, 3) := by decide +kernel
theorem dX8_read_127 : decode cX8_read 127 = .ok (.aload_n 0, 1) := by decide +kernel
theorem dX8_read_128 : decode cX8_read 128 = .ok (.aload_n 2, 1) := by decide +kernel
theorem dX8_read_129 : decode cX8_read 129 = .ok (.iload 5, 2) := by decide +kernel
theorem dX8_read_131 : decode cX8_read 131 = .ok (.invokestatic 51, 3) := by decide +kernel
theorem dX8_read_134 : decode cX8_read 134 = .ok (.iload 5, 2) := by decide +kernel
theorem dX8_read_136 : decode cX8_read 136 = .ok (.iload 4, 2) := by decide +kernel
theorem dX8_read_138 : decode cX8_read 138 = .ok (.invokevirtual 88, 3) := by decide +kernel
theorem dX8_read_141 : decode cX8_read 141 = .ok (.iload 6, 2) := by decide +kernel
theorem dX8_read_143 : decode cX8_read 143 = .ok (.ifCond .ne 17, 3) := by decide +kernel
theorem dX8_read_146 : decode cX8_read 146 = .ok (.iload 5, 2) := by decide +kernel
theorem dX8_read_148 : decode cX8_read 148 = .ok (.bipush 40, 2) := by decide +kernel
theorem dX8_read_150 : decode cX8_read 150 = .ok (.if_icmp .eq 10, 3) := by decide +kernel
theorem dX8_read_153 : decode cX8_read 153 = .ok (.iload 5, 2) := by decide +kernel
theorem dX8_read_155 : decode cX8_read 155 = .ok (.bipush 59, 2) := by decide +kernel
theorem dX8_read_157 : decode cX8_read 157 = .ok (.if_icmp .ne 7, 3) := by decide +kernel
theorem dX8_read_160 : decode cX8_read 160 = .ok (.iconst 1, 1) := by decide +kernel
theorem dX8_read_161 : decode cX8_read 161 = .ok (.goto 4, 3) := by decide +kernel
theorem dX8_read_164 : decode cX8_read 164 = .ok (.iconst 0, 1) := by decide +kernel
theorem dX8_read_165 : decode cX8_read 165 = .ok (.istore_n 3, 1) := by decide +kernel
theorem dX8_read_166 : decode cX8_read 166 = .ok (.iload 4, 2) := by decide +kernel
theorem dX8_read_168 : decode cX8_read 168 = .ok (.iload 6, 2) := by decide +kernel
theorem dX8_read_170 : decode cX8_read 170 = .ok (.ifCond .eq 7, 3) := by decide +kernel
theorem dX8_read_173 : decode cX8_read 173 = .ok (.iconst 3, 1) := by decide +kernel
theorem dX8_read_174 : decode cX8_read 174 = .ok (.goto 4, 3) := by decide +kernel
theorem dX8_read_177 : decode cX8_read 177 = .ok (.iconst 1, 1) := by decide +kernel
theorem dX8_read_178 : decode cX8_read 178 = .ok (.iadd, 1) := by decide +kernel
theorem dX8_read_179 : decode cX8_read 179 = .ok (.istore 4, 2) := by decide +kernel
theorem dX8_read_181 : decode cX8_read 181 = .ok (.goto (-157), 3) := by decide +kernel
theorem dX8_read_184 : decode cX8_read 184 = .ok (.aload_n 2, 1) := by decide +kernel
theorem dX8_read_185 : decode cX8_read 185 = .ok (.invokestatic 92, 3) := by decide +kernel
theorem dX8_read_188 : decode cX8_read 188 = .ok (.aload_n 2, 1) := by decide +kernel
theorem dX8_read_189 : decode cX8_read 189 = .ok (.areturn, 1) := by decide +kernel
theorem dX8_partsFrom_0 : decode cX8_partsFrom 0 = .ok (.iconst 0, 1) := by decide +kernel
theorem dX8_partsFrom_1 : decode cX8_partsFrom 1 = .ok (.istore_n 2, 1) := by decide +kernel
theorem dX8_partsFrom_2 : decode cX8_partsFrom 2 = .ok (.iconst 0, 1) := by decide +kernel
theorem dX8_partsFrom_3 : decode cX8_partsFrom 3 = .ok (.istore_n 3, 1) := by decide +kernel
theorem dX8_partsFrom_4 : decode cX8_partsFrom 4 = .ok (.iload_n 1, 1) := by decide +kernel
theorem dX8_partsFrom_5 : decode cX8_partsFrom 5 = .ok (.istore 4, 2) := by decide +kernel
theorem dX8_partsFrom_7 : decode cX8_partsFrom 7 = .ok (.iload 4, 2) := by decide +kernel
theorem dX8_partsFrom_9 : decode cX8_partsFrom 9 = .ok (.aload_n 0, 1) := by decide +kernel
theorem dX8_partsFrom_10 : decode cX8_partsFrom 10 = .ok (.invokevirtual 22, 3) := by decide +kernel
theorem dX8_partsFrom_13 : decode cX8_partsFrom 13 = .ok (.if_icmp .ge 70, 3) := by decide +kernel
theorem dX8_partsFrom_16 : decode cX8_partsFrom 16 = .ok (.aload_n 0, 1) := by decide +kernel
theorem dX8_partsFrom_17 : decode cX8_partsFrom 17 = .ok (.iload 4, 2) := by decide +kernel
theorem dX8_partsFrom_19 : decode cX8_partsFrom 19 = .ok (.invokevirtual 28, 3) := by decide +kernel
theorem dX8_partsFrom_22 : decode cX8_partsFrom 22 = .ok (.istore 5, 2) := by decide +kernel
theorem dX8_partsFrom_24 : decode cX8_partsFrom 24 = .ok (.iload_n 3, 1) := by decide +kernel
theorem dX8_partsFrom_25 : decode cX8_partsFrom 25 = .ok (.ifCond .ne 19, 3) := by decide +kernel
theorem dX8_partsFrom_28 : decode cX8_partsFrom 28 = .ok (.iload 5, 2) := by decide +kernel
theorem dX8_partsFrom_30 : decode cX8_partsFrom 30 = .ok (.bipush 41, 2) := by decide +kernel
theorem dX8_partsFrom_32 : decode cX8_partsFrom 32 = .ok (.if_icmp .eq 10, 3) := by decide +kernel
theorem dX8_partsFrom_35 : decode cX8_partsFrom 35 = .ok (.iload 5, 2) := by decide +kernel
theorem dX8_partsFrom_37 : decode cX8_partsFrom 37 = .ok (.bipush 59, 2) := by decide +kernel
theorem dX8_partsFrom_39 : decode cX8_partsFrom 39 = .ok (.if_icmp .ne 5, 3) := by decide +kernel
theorem dX8_partsFrom_42 : decode cX8_partsFrom 42 = .ok (.iload_n 2, 1) := by decide +kernel
theorem dX8_partsFrom_43 : decode cX8_partsFrom 43 = .ok (.ireturn, 1) := by decide +kernel
theorem dX8_partsFrom_44 : decode cX8_partsFrom 44 = .ok (.iload_n 3, 1) := by decide +kernel
theorem dX8_partsFrom_45 : decode cX8_partsFrom 45 = .ok (.iload 5, 2) := by decide +kernel
theorem dX8_partsFrom_47 : decode cX8_partsFrom 47 = .ok (.bipush 40, 2) := by decide +kernel
theorem dX8_partsFrom_49 : decode cX8_partsFrom 49 = .ok (.if_icmp .ne 7, 3) := by decide +kernel
theorem dX8_partsFrom_52 : decode cX8_partsFrom 52 = .ok (.iconst 1, 1) := by decide +kernel
theorem dX8_partsFrom_53 : decode cX8_partsFrom 53 = .ok (.goto 15, 3) := by decide +kernel
theorem dX8_partsFrom_56 : decode cX8_partsFrom 56 = .ok (.iload 5, 2) := by decide +kernel
theorem dX8_partsFrom_58 : decode cX8_partsFrom 58 = .ok (.bipush 41, 2) := by decide +kernel
theorem dX8_partsFrom_60 : decode cX8_partsFrom 60 = .ok (.if_icmp .ne 7, 3) := by decide +kernel
theorem dX8_partsFrom_63 : decode cX8_partsFrom 63 = .ok (.iconst (-1), 1) := by decide +kernel
theorem dX8_partsFrom_64 : decode cX8_partsFrom 64 = .ok (.goto 4, 3) := by decide +kernel
theorem dX8_partsFrom_67 : decode cX8_partsFrom 67 = .ok (.iconst 0, 1) := by decide +kernel
theorem dX8_partsFrom_68 : decode cX8_partsFrom 68 = .ok (.iadd, 1) := by decide +kernel
theorem dX8_partsFrom_69 : decode cX8_partsFrom 69 = .ok (.istore_n 3, 1) := by decide +kernel
theorem dX8_partsFrom_70 : decode cX8_partsFrom 70 = .ok (.iload_n 3, 1) := by decide +kernel
theorem dX8_partsFrom_71 : decode cX8_partsFrom 71 = .ok (.ifCond .ne 6, 3) := by decide +kernel
theorem dX8_partsFrom_74 : decode cX8_partsFrom 74 = .ok (.iinc 2 1, 3) := by decide +kernel
theorem dX8_partsFrom_77 : decode cX8_partsFrom 77 = .ok (.iinc 4 1, 3) := by decide +kernel
theorem dX8_partsFrom_80 : decode cX8_partsFrom 80 = .ok (.goto (-73), 3) := by decide +kernel
theorem dX8_partsFrom_83 : decode cX8_partsFrom 83 = .ok (.iload_n 2, 1) := by decide +kernel
theorem dX8_partsFrom_84 : decode cX8_partsFrom 84 = .ok (.ireturn, 1) := by decide +kernel
theorem dX8_addApplications_0 : decode cX8_addApplications 0 = .ok (.iconst 0, 1) := by decide +kernel
theorem dX8_addApplications_1 : decode cX8_addApplications 1 = .ok (.istore_n 3, 1) := by decide +kernel
theorem dX8_addApplications_2 : decode cX8_addApplications 2 = .ok (.iload_n 3, 1) := by decide +kernel
theorem dX8_addApplications_3 : decode cX8_addApplications 3 = .ok (.iload_n 2, 1) := by decide +kernel
theorem dX8_addApplications_4 : decode cX8_addApplications 4 = .ok (.if_icmp .ge 18, 3) := by decide +kernel
theorem dX8_addApplications_7 : decode cX8_addApplications 7 = .ok (.aload_n 0, 1) := by decide +kernel
theorem dX8_addApplications_8 : decode cX8_addApplications 8 = .ok (.aload_n 1, 1) := by decide +kernel
theorem dX8_addApplications_9 : decode cX8_addApplications 9 = .ok (.bipush 6, 2) := by decide +kernel
theorem dX8_addApplications_11 : decode cX8_addApplications 11 = .ok (.iconst 0, 1) := by decide +kernel
theorem dX8_addApplications_12 : decode cX8_addApplications 12 = .ok (.iconst 0, 1) := by decide +kernel
theorem dX8_addApplications_13 : decode cX8_addApplications 13 = .ok (.invokevirtual 88, 3) := by decide +kernel
theorem dX8_addApplications_16 : decode cX8_addApplications 16 = .ok (.iinc 3 1, 3) := by decide +kernel
theorem dX8_addApplications_19 : decode cX8_addApplications 19 = .ok (.goto (-17), 3) := by decide +kernel
theorem dX8_addApplications_22 : decode cX8_addApplications 22 = .ok (.return_, 1) := by decide +kernel
theorem dX8_addNode_0 : decode cX8_addNode 0 = .ok (.aload_n 1, 1) := by decide +kernel
theorem dX8_addNode_1 : decode cX8_addNode 1 = .ok (.getfield 96, 3) := by decide +kernel
theorem dX8_addNode_4 : decode cX8_addNode 4 = .ok (.istore 5, 2) := by decide +kernel
theorem dX8_addNode_6 : decode cX8_addNode 6 = .ok (.aload_n 1, 1) := by decide +kernel
theorem dX8_addNode_7 : decode cX8_addNode 7 = .ok (.dup, 1) := by decide +kernel
theorem dX8_addNode_8 : decode cX8_addNode 8 = .ok (.getfield 96, 3) := by decide +kernel
theorem dX8_addNode_11 : decode cX8_addNode 11 = .ok (.iconst 1, 1) := by decide +kernel
theorem dX8_addNode_12 : decode cX8_addNode 12 = .ok (.iadd, 1) := by decide +kernel
theorem dX8_addNode_13 : decode cX8_addNode 13 = .ok (.putfield 96, 3) := by decide +kernel
theorem dX8_addNode_16 : decode cX8_addNode 16 = .ok (.aload_n 0, 1) := by decide +kernel
theorem dX8_addNode_17 : decode cX8_addNode 17 = .ok (.aload_n 0, 1) := by decide +kernel
theorem dX8_addNode_18 : decode cX8_addNode 18 = .ok (.getfield 73, 3) := by decide +kernel
theorem dX8_addNode_21 : decode cX8_addNode 21 = .ok (.ifCond .le 12, 3) := by decide +kernel
theorem dX8_addNode_24 : decode cX8_addNode 24 = .ok (.aload_n 0, 1) := by decide +kernel
theorem dX8_addNode_25 : decode cX8_addNode 25 = .ok (.getfield 73, 3) := by decide +kernel
theorem dX8_addNode_28 : decode cX8_addNode 28 = .ok (.iconst 1, 1) := by decide +kernel
theorem dX8_addNode_29 : decode cX8_addNode 29 = .ok (.isub, 1) := by decide +kernel
theorem dX8_addNode_30 : decode cX8_addNode 30 = .ok (.goto 4, 3) := by decide +kernel
theorem dX8_addNode_33 : decode cX8_addNode 33 = .ok (.iconst 0, 1) := by decide +kernel
theorem dX8_addNode_34 : decode cX8_addNode 34 = .ok (.putfield 73, 3) := by decide +kernel
theorem dX8_addNode_37 : decode cX8_addNode 37 = .ok (.iload 5, 2) := by decide +kernel
theorem dX8_addNode_39 : decode cX8_addNode 39 = .ok (.ifCond .ne 7, 3) := by decide +kernel
theorem dX8_addNode_42 : decode cX8_addNode 42 = .ok (.iconst (-1), 1) := by decide +kernel
theorem dX8_addNode_43 : decode cX8_addNode 43 = .ok (.goto 14, 3) := by decide +kernel
theorem dX8_addNode_46 : decode cX8_addNode 46 = .ok (.aload_n 0, 1) := by decide +kernel
theorem dX8_addNode_47 : decode cX8_addNode 47 = .ok (.getfield 15, 3) := by decide +kernel
theorem dX8_addNode_50 : decode cX8_addNode 50 = .ok (.aload_n 0, 1) := by decide +kernel
theorem dX8_addNode_51 : decode cX8_addNode 51 = .ok (.getfield 73, 3) := by decide +kernel
theorem dX8_addNode_54 : decode cX8_addNode 54 = .ok (.invokestatic 58, 3) := by decide +kernel
theorem dX8_addNode_57 : decode cX8_addNode 57 = .ok (.istore 6, 2) := by decide +kernel
theorem dX8_addNode_59 : decode cX8_addNode 59 = .ok (.aload_n 1, 1) := by decide +kernel
theorem dX8_addNode_60 : decode cX8_addNode 60 = .ok (.iconst 0, 1) := by decide +kernel
theorem dX8_addNode_61 : decode cX8_addNode 61 = .ok (.iload 5, 2) := by decide +kernel
theorem dX8_addNode_63 : decode cX8_addNode 63 = .ok (.iload_n 2, 1) := by decide +kernel
theorem dX8_addNode_64 : decode cX8_addNode 64 = .ok (.invokevirtual 99, 3) := by decide +kernel
theorem dX8_addNode_67 : decode cX8_addNode 67 = .ok (.aload_n 1, 1) := by decide +kernel
theorem dX8_addNode_68 : decode cX8_addNode 68 = .ok (.iconst 1, 1) := by decide +kernel
theorem dX8_addNode_69 : decode cX8_addNode 69 = .ok (.iload 5, 2) := by decide +kernel
theorem dX8_addNode_71 : decode cX8_addNode 71 = .ok (.iload 6, 2) := by decide +kernel
theorem dX8_addNode_73 : decode cX8_addNode 73 = .ok (.invokevirtual 99, 3) := by decide +kernel
theorem dX8_addNode_76 : decode cX8_addNode 76 = .ok (.aload_n 1, 1) := by decide +kernel
theorem dX8_addNode_77 : decode cX8_addNode 77 = .ok (.iconst 2, 1) := by decide +kernel
theorem dX8_addNode_78 : decode cX8_addNode 78 = .ok (.iload 5, 2) := by decide +kernel
theorem dX8_addNode_80 : decode cX8_addNode 80 = .ok (.iconst (-1), 1) := by decide +kernel
theorem dX8_addNode_81 : decode cX8_addNode 81 = .ok (.invokevirtual 99, 3) := by decide +kernel
theorem dX8_addNode_84 : decode cX8_addNode 84 = .ok (.aload_n 1, 1) := by decide +kernel
theorem dX8_addNode_85 : decode cX8_addNode 85 = .ok (.iconst 3, 1) := by decide +kernel
theorem dX8_addNode_86 : decode cX8_addNode 86 = .ok (.iload 5, 2) := by decide +kernel
theorem dX8_addNode_88 : decode cX8_addNode 88 = .ok (.iconst (-1), 1) := by decide +kernel
theorem dX8_addNode_89 : decode cX8_addNode 89 = .ok (.invokevirtual 99, 3) := by decide +kernel
theorem dX8_addNode_92 : decode cX8_addNode 92 = .ok (.aload_n 1, 1) := by decide +kernel
theorem dX8_addNode_93 : decode cX8_addNode 93 = .ok (.iconst 4, 1) := by decide +kernel
theorem dX8_addNode_94 : decode cX8_addNode 94 = .ok (.iload 5, 2) := by decide +kernel
theorem dX8_addNode_96 : decode cX8_addNode 96 = .ok (.iload 5, 2) := by decide +kernel
theorem dX8_addNode_98 : decode cX8_addNode 98 = .ok (.ifCond .ne 7, 3) := by decide +kernel
theorem dX8_addNode_101 : decode cX8_addNode 101 = .ok (.iconst 0, 1) := by decide +kernel
theorem dX8_addNode_102 : decode cX8_addNode 102 = .ok (.goto 12, 3) := by decide +kernel
theorem dX8_addNode_105 : decode cX8_addNode 105 = .ok (.aload_n 1, 1) := by decide +kernel
theorem dX8_addNode_106 : decode cX8_addNode 106 = .ok (.iconst 4, 1) := by decide +kernel
theorem dX8_addNode_107 : decode cX8_addNode 107 = .ok (.iload 6, 2) := by decide +kernel
theorem dX8_addNode_109 : decode cX8_addNode 109 = .ok (.invokevirtual 103, 3) := by decide +kernel
theorem dX8_addNode_112 : decode cX8_addNode 112 = .ok (.iconst 1, 1) := by decide +kernel
theorem dX8_addNode_113 : decode cX8_addNode 113 = .ok (.iadd, 1) := by decide +kernel
theorem dX8_addNode_114 : decode cX8_addNode 114 = .ok (.invokevirtual 99, 3) := by decide +kernel
theorem dX8_addNode_117 : decode cX8_addNode 117 = .ok (.aload_n 1, 1) := by decide +kernel
theorem dX8_addNode_118 : decode cX8_addNode 118 = .ok (.iconst 5, 1) := by decide +kernel
theorem dX8_addNode_119 : decode cX8_addNode 119 = .ok (.iload 5, 2) := by decide +kernel
theorem dX8_addNode_121 : decode cX8_addNode 121 = .ok (.iload 4, 2) := by decide +kernel
theorem dX8_addNode_123 : decode cX8_addNode 123 = .ok (.invokevirtual 99, 3) := by decide +kernel
theorem dX8_addNode_126 : decode cX8_addNode 126 = .ok (.aload_n 1, 1) := by decide +kernel
theorem dX8_addNode_127 : decode cX8_addNode 127 = .ok (.bipush 6, 2) := by decide +kernel
theorem dX8_addNode_129 : decode cX8_addNode 129 = .ok (.iload 5, 2) := by decide +kernel
theorem dX8_addNode_131 : decode cX8_addNode 131 = .ok (.iload_n 3, 1) := by decide +kernel
theorem dX8_addNode_132 : decode cX8_addNode 132 = .ok (.invokevirtual 99, 3) := by decide +kernel
theorem dX8_addNode_135 : decode cX8_addNode 135 = .ok (.aload_n 1, 1) := by decide +kernel
theorem dX8_addNode_136 : decode cX8_addNode 136 = .ok (.bipush 7, 2) := by decide +kernel
theorem dX8_addNode_138 : decode cX8_addNode 138 = .ok (.iload 5, 2) := by decide +kernel
theorem dX8_addNode_140 : decode cX8_addNode 140 = .ok (.iconst (-1), 1) := by decide +kernel
theorem dX8_addNode_141 : decode cX8_addNode 141 = .ok (.invokevirtual 99, 3) := by decide +kernel
theorem dX8_addNode_144 : decode cX8_addNode 144 = .ok (.iload 5, 2) := by decide +kernel
theorem dX8_addNode_146 : decode cX8_addNode 146 = .ok (.ifCond .le 25, 3) := by decide +kernel
theorem dX8_addNode_149 : decode cX8_addNode 149 = .ok (.aload_n 1, 1) := by decide +kernel
theorem dX8_addNode_150 : decode cX8_addNode 150 = .ok (.iload 5, 2) := by decide +kernel
theorem dX8_addNode_152 : decode cX8_addNode 152 = .ok (.iload 6, 2) := by decide +kernel
theorem dX8_addNode_154 : decode cX8_addNode 154 = .ok (.iconst 1, 1) := by decide +kernel
theorem dX8_addNode_155 : decode cX8_addNode 155 = .ok (.iadd, 1) := by decide +kernel
theorem dX8_addNode_156 : decode cX8_addNode 156 = .ok (.if_icmp .ne 7, 3) := by decide +kernel
theorem dX8_addNode_159 : decode cX8_addNode 159 = .ok (.iconst 2, 1) := by decide +kernel
theorem dX8_addNode_160 : decode cX8_addNode 160 = .ok (.goto 4, 3) := by decide +kernel
theorem dX8_addNode_163 : decode cX8_addNode 163 = .ok (.iconst 3, 1) := by decide +kernel
theorem dX8_addNode_164 : decode cX8_addNode 164 = .ok (.iload 6, 2) := by decide +kernel
theorem dX8_addNode_166 : decode cX8_addNode 166 = .ok (.iload 5, 2) := by decide +kernel
theorem dX8_addNode_168 : decode cX8_addNode 168 = .ok (.invokevirtual 99, 3) := by decide +kernel
theorem dX8_addNode_171 : decode cX8_addNode 171 = .ok (.iload_n 2, 1) := by decide +kernel
theorem dX8_addNode_172 : decode cX8_addNode 172 = .ok (.iconst 4, 1) := by decide +kernel
theorem dX8_addNode_173 : decode cX8_addNode 173 = .ok (.if_icmp .ge 7, 3) := by decide +kernel
theorem dX8_addNode_176 : decode cX8_addNode 176 = .ok (.iconst 0, 1) := by decide +kernel
theorem dX8_addNode_177 : decode cX8_addNode 177 = .ok (.goto 13, 3) := by decide +kernel
theorem dX8_addNode_180 : decode cX8_addNode 180 = .ok (.iload_n 2, 1) := by decide +kernel
theorem dX8_addNode_181 : decode cX8_addNode 181 = .ok (.iconst 4, 1) := by decide +kernel
theorem dX8_addNode_182 : decode cX8_addNode 182 = .ok (.if_icmp .ne 7, 3) := by decide +kernel
theorem dX8_addNode_185 : decode cX8_addNode 185 = .ok (.iconst 1, 1) := by decide +kernel
theorem dX8_addNode_186 : decode cX8_addNode 186 = .ok (.goto 4, 3) := by decide +kernel
theorem dX8_addNode_189 : decode cX8_addNode 189 = .ok (.iconst 2, 1) := by decide +kernel
theorem dX8_addNode_190 : decode cX8_addNode 190 = .ok (.istore 7, 2) := by decide +kernel
theorem dX8_addNode_192 : decode cX8_addNode 192 = .ok (.iconst 0, 1) := by decide +kernel
theorem dX8_addNode_193 : decode cX8_addNode 193 = .ok (.istore 8, 2) := by decide +kernel
theorem dX8_addNode_195 : decode cX8_addNode 195 = .ok (.iload 8, 2) := by decide +kernel
theorem dX8_addNode_197 : decode cX8_addNode 197 = .ok (.iload 7, 2) := by decide +kernel
theorem dX8_addNode_199 : decode cX8_addNode 199 = .ok (.if_icmp .ge 32, 3) := by decide +kernel
theorem dX8_addNode_202 : decode cX8_addNode 202 = .ok (.aload_n 0, 1) := by decide +kernel
theorem dX8_addNode_203 : decode cX8_addNode 203 = .ok (.getfield 15, 3) := by decide +kernel
theorem dX8_addNode_206 : decode cX8_addNode 206 = .ok (.aload_n 0, 1) := by decide +kernel
theorem dX8_addNode_207 : decode cX8_addNode 207 = .ok (.getfield 73, 3) := by decide +kernel
theorem dX8_addNode_210 : decode cX8_addNode 210 = .ok (.iload 5, 2) := by decide +kernel
theorem dX8_addNode_212 : decode cX8_addNode 212 = .ok (.invokestatic 54, 3) := by decide +kernel
theorem dX8_addNode_215 : decode cX8_addNode 215 = .ok (.aload_n 0, 1) := by decide +kernel
theorem dX8_addNode_216 : decode cX8_addNode 216 = .ok (.dup, 1) := by decide +kernel
theorem dX8_addNode_217 : decode cX8_addNode 217 = .ok (.getfield 73, 3) := by decide +kernel
theorem dX8_addNode_220 : decode cX8_addNode 220 = .ok (.iconst 1, 1) := by decide +kernel
theorem dX8_addNode_221 : decode cX8_addNode 221 = .ok (.iadd, 1) := by decide +kernel
theorem dX8_addNode_222 : decode cX8_addNode 222 = .ok (.putfield 73, 3) := by decide +kernel
theorem dX8_addNode_225 : decode cX8_addNode 225 = .ok (.iinc 8 1, 3) := by decide +kernel
theorem dX8_addNode_228 : decode cX8_addNode 228 = .ok (.goto (-33), 3) := by decide +kernel
theorem dX8_addNode_231 : decode cX8_addNode 231 = .ok (.return_, 1) := by decide +kernel
theorem dX8_finish_0 : decode cX8_finish 0 = .ok (.aload_n 0, 1) := by decide +kernel
theorem dX8_finish_1 : decode cX8_finish 1 = .ok (.getfield 96, 3) := by decide +kernel
theorem dX8_finish_4 : decode cX8_finish 4 = .ok (.iconst 1, 1) := by decide +kernel
theorem dX8_finish_5 : decode cX8_finish 5 = .ok (.isub, 1) := by decide +kernel
theorem dX8_finish_6 : decode cX8_finish 6 = .ok (.istore_n 1, 1) := by decide +kernel
theorem dX8_finish_7 : decode cX8_finish 7 = .ok (.iload_n 1, 1) := by decide +kernel
theorem dX8_finish_8 : decode cX8_finish 8 = .ok (.ifCond .lt 58, 3) := by decide +kernel
theorem dX8_finish_11 : decode cX8_finish 11 = .ok (.aload_n 0, 1) := by decide +kernel
theorem dX8_finish_12 : decode cX8_finish 12 = .ok (.iconst 0, 1) := by decide +kernel
theorem dX8_finish_13 : decode cX8_finish 13 = .ok (.iload_n 1, 1) := by decide +kernel
theorem dX8_finish_14 : decode cX8_finish 14 = .ok (.invokevirtual 103, 3) := by decide +kernel
theorem dX8_finish_17 : decode cX8_finish 17 = .ok (.istore_n 2, 1) := by decide +kernel
theorem dX8_finish_18 : decode cX8_finish 18 = .ok (.iload_n 2, 1) := by decide +kernel
theorem dX8_finish_19 : decode cX8_finish 19 = .ok (.bipush 6, 2) := by decide +kernel
theorem dX8_finish_21 : decode cX8_finish 21 = .ok (.if_icmp .ne 23, 3) := by decide +kernel
theorem dX8_finish_24 : decode cX8_finish 24 = .ok (.aload_n 0, 1) := by decide +kernel
theorem dX8_finish_25 : decode cX8_finish 25 = .ok (.iconst 5, 1) := by decide +kernel
theorem dX8_finish_26 : decode cX8_finish 26 = .ok (.iload_n 1, 1) := by decide +kernel
theorem dX8_finish_27 : decode cX8_finish 27 = .ok (.aload_n 0, 1) := by decide +kernel
theorem dX8_finish_28 : decode cX8_finish 28 = .ok (.iconst 5, 1) := by decide +kernel
theorem dX8_finish_29 : decode cX8_finish 29 = .ok (.aload_n 0, 1) := by decide +kernel
theorem dX8_finish_30 : decode cX8_finish 30 = .ok (.iconst 2, 1) := by decide +kernel
theorem dX8_finish_31 : decode cX8_finish 31 = .ok (.iload_n 1, 1) := by decide +kernel
theorem dX8_finish_32 : decode cX8_finish 32 = .ok (.invokevirtual 103, 3) := by decide +kernel
theorem dX8_finish_35 : decode cX8_finish 35 = .ok (.invokevirtual 103, 3) := by decide +kernel
theorem dX8_finish_38 : decode cX8_finish 38 = .ok (.invokevirtual 99, 3) := by decide +kernel
theorem dX8_finish_41 : decode cX8_finish 41 = .ok (.goto 19, 3) := by decide +kernel
theorem dX8_finish_44 : decode cX8_finish 44 = .ok (.iload_n 2, 1) := by decide +kernel
theorem dX8_finish_45 : decode cX8_finish 45 = .ok (.ifCond .ne 15, 3) := by decide +kernel
theorem dX8_finish_48 : decode cX8_finish 48 = .ok (.aload_n 0, 1) := by decide +kernel
theorem dX8_finish_49 : decode cX8_finish 49 = .ok (.bipush 7, 2) := by decide +kernel
theorem dX8_finish_51 : decode cX8_finish 51 = .ok (.iload_n 1, 1) := by decide +kernel
theorem dX8_finish_52 : decode cX8_finish 52 = .ok (.aload_n 0, 1) := by decide +kernel
theorem dX8_finish_53 : decode cX8_finish 53 = .ok (.iload_n 1, 1) := by decide +kernel
theorem dX8_finish_54 : decode cX8_finish 54 = .ok (.invokevirtual 107, 3) := by decide +kernel
theorem dX8_finish_57 : decode cX8_finish 57 = .ok (.invokevirtual 99, 3) := by decide +kernel
theorem dX8_finish_60 : decode cX8_finish 60 = .ok (.iinc 1 (-1), 3) := by decide +kernel
theorem dX8_finish_63 : decode cX8_finish 63 = .ok (.goto (-56), 3) := by decide +kernel
theorem dX8_finish_66 : decode cX8_finish 66 = .ok (.return_, 1) := by decide +kernel
theorem dX9_init_0 : decode cX9_init 0 = .ok (.aload_n 0, 1) := by decide +kernel
theorem dX9_init_1 : decode cX9_init 1 = .ok (.invokespecial 3, 3) := by decide +kernel
theorem dX9_init_4 : decode cX9_init 4 = .ok (.aload_n 0, 1) := by decide +kernel
theorem dX9_init_5 : decode cX9_init 5 = .ok (.sipush 256, 3) := by decide +kernel
theorem dX9_init_8 : decode cX9_init 8 = .ok (.newarray .int, 2) := by decide +kernel
theorem dX9_init_10 : decode cX9_init 10 = .ok (.putfield 9, 3) := by decide +kernel
theorem dX9_init_13 : decode cX9_init 13 = .ok (.aload_n 0, 1) := by decide +kernel
theorem dX9_init_14 : decode cX9_init 14 = .ok (.sipush 256, 3) := by decide +kernel
theorem dX9_init_17 : decode cX9_init 17 = .ok (.newarray .int, 2) := by decide +kernel
theorem dX9_init_19 : decode cX9_init 19 = .ok (.putfield 15, 3) := by decide +kernel
theorem dX9_init_22 : decode cX9_init 22 = .ok (.aload_n 0, 1) := by decide +kernel
theorem dX9_init_23 : decode cX9_init 23 = .ok (.sipush 256, 3) := by decide +kernel
theorem dX9_init_26 : decode cX9_init 26 = .ok (.newarray .int, 2) := by decide +kernel
theorem dX9_init_28 : decode cX9_init 28 = .ok (.putfield 18, 3) := by decide +kernel
theorem dX9_init_31 : decode cX9_init 31 = .ok (.aload_n 0, 1) := by decide +kernel
theorem dX9_init_32 : decode cX9_init 32 = .ok (.sipush 256, 3) := by decide +kernel
theorem dX9_init_35 : decode cX9_init 35 = .ok (.newarray .int, 2) := by decide +kernel
theorem dX9_init_37 : decode cX9_init 37 = .ok (.putfield 21, 3) := by decide +kernel
theorem dX9_init_40 : decode cX9_init 40 = .ok (.aload_n 0, 1) := by decide +kernel
theorem dX9_init_41 : decode cX9_init 41 = .ok (.bipush 64, 2) := by decide +kernel
theorem dX9_init_43 : decode cX9_init 43 = .ok (.newarray .int, 2) := by decide +kernel
theorem dX9_init_45 : decode cX9_init 45 = .ok (.putfield 24, 3) := by decide +kernel
theorem dX9_init_48 : decode cX9_init 48 = .ok (.aload_n 0, 1) := by decide +kernel
theorem dX9_init_49 : decode cX9_init 49 = .ok (.bipush 64, 2) := by decide +kernel
theorem dX9_init_51 : decode cX9_init 51 = .ok (.newarray .int, 2) := by decide +kernel
theorem dX9_init_53 : decode cX9_init 53 = .ok (.putfield 27, 3) := by decide +kernel
theorem dX9_init_56 : decode cX9_init 56 = .ok (.aload_n 0, 1) := by decide +kernel
theorem dX9_init_57 : decode cX9_init 57 = .ok (.bipush 64, 2) := by decide +kernel
theorem dX9_init_59 : decode cX9_init 59 = .ok (.newarray .int, 2) := by decide +kernel
theorem dX9_init_61 : decode cX9_init 61 = .ok (.putfield 30, 3) := by decide +kernel
theorem dX9_init_64 : decode cX9_init 64 = .ok (.aload_n 0, 1) := by decide +kernel
theorem dX9_init_65 : decode cX9_init 65 = .ok (.bipush 64, 2) := by decide +kernel
theorem dX9_init_67 : decode cX9_init 67 = .ok (.newarray .int, 2) := by decide +kernel
theorem dX9_init_69 : decode cX9_init 69 = .ok (.putfield 33, 3) := by decide +kernel
theorem dX9_init_72 : decode cX9_init 72 = .ok (.aload_n 0, 1) := by decide +kernel
theorem dX9_init_73 : decode cX9_init 73 = .ok (.sipush 200, 3) := by decide +kernel
theorem dX9_init_76 : decode cX9_init 76 = .ok (.newarray .int, 2) := by decide +kernel
theorem dX9_init_78 : decode cX9_init 78 = .ok (.putfield 36, 3) := by decide +kernel
theorem dX9_init_81 : decode cX9_init 81 = .ok (.return_, 1) := by decide +kernel
theorem dX9_clear_0 : decode cX9_clear 0 = .ok (.aload_n 0, 1) := by decide +kernel
theorem dX9_clear_1 : decode cX9_clear 1 = .ok (.iconst 0, 1) := by decide +kernel
theorem dX9_clear_2 : decode cX9_clear 2 = .ok (.putfield 39, 3) := by decide +kernel
theorem dX9_clear_5 : decode cX9_clear 5 = .ok (.aload_n 0, 1) := by decide +kernel
theorem dX9_clear_6 : decode cX9_clear 6 = .ok (.iconst 0, 1) := by decide +kernel
theorem dX9_clear_7 : decode cX9_clear 7 = .ok (.putfield 43, 3) := by decide +kernel
theorem dX9_clear_10 : decode cX9_clear 10 = .ok (.aload_n 0, 1) := by decide +kernel
theorem dX9_clear_11 : decode cX9_clear 11 = .ok (.iconst 0, 1) := by decide +kernel
theorem dX9_clear_12 : decode cX9_clear 12 = .ok (.putfield 46, 3) := by decide +kernel
theorem dX9_clear_15 : decode cX9_clear 15 = .ok (.aload_n 0, 1) := by decide +kernel
theorem dX9_clear_16 : decode cX9_clear 16 = .ok (.iconst (-1), 1) := by decide +kernel
theorem dX9_clear_17 : decode cX9_clear 17 = .ok (.iconst (-1), 1) := by decide +kernel
theorem dX9_clear_18 : decode cX9_clear 18 = .ok (.invokevirtual 49, 3) := by decide +kernel
theorem dX9_clear_21 : decode cX9_clear 21 = .ok (.pop, 1) := by decide +kernel
theorem dX9_clear_22 : decode cX9_clear 22 = .ok (.aload_n 0, 1) := by decide +kernel
theorem dX9_clear_23 : decode cX9_clear 23 = .ok (.iconst (-1), 1) := by decide +kernel
theorem dX9_clear_24 : decode cX9_clear 24 = .ok (.iconst (-1), 1) := by decide +kernel
theorem dX9_clear_25 : decode cX9_clear 25 = .ok (.invokevirtual 49, 3) := by decide +kernel
theorem dX9_clear_28 : decode cX9_clear 28 = .ok (.pop, 1) := by decide +kernel
theorem dX9_clear_29 : decode cX9_clear 29 = .ok (.return_, 1) := by decide +kernel
theorem dX9_add_0 : decode cX9_add 0 = .ok (.aload_n 0, 1) := by decide +kernel
theorem dX9_add_1 : decode cX9_add 1 = .ok (.getfield 39, 3) := by decide +kernel
theorem dX9_add_4 : decode cX9_add 4 = .ok (.aload_n 0, 1) := by decide +kernel
theorem dX9_add_5 : decode cX9_add 5 = .ok (.getfield 9, 3) := by decide +kernel
theorem dX9_add_8 : decode cX9_add 8 = .ok (.arraylength, 1) := by decide +kernel
theorem dX9_add_9 : decode cX9_add 9 = .ok (.if_icmp .lt 71, 3) := by decide +kernel
theorem dX9_add_12 : decode cX9_add 12 = .ok (.aload_n 0, 1) := by decide +kernel
theorem dX9_add_13 : decode cX9_add 13 = .ok (.aload_n 0, 1) := by decide +kernel
theorem dX9_add_14 : decode cX9_add 14 = .ok (.getfield 9, 3) := by decide +kernel
theorem dX9_add_17 : decode cX9_add 17 = .ok (.iconst 2, 1) := by decide +kernel
theorem dX9_add_18 : decode cX9_add 18 = .ok (.aload_n 0, 1) := by decide +kernel
theorem dX9_add_19 : decode cX9_add 19 = .ok (.getfield 39, 3) := by decide +kernel
theorem dX9_add_22 : decode cX9_add 22 = .ok (.imul, 1) := by decide +kernel
theorem dX9_add_23 : decode cX9_add 23 = .ok (.invokestatic 53, 3) := by decide +kernel
theorem dX9_add_26 : decode cX9_add 26 = .ok (.putfield 9, 3) := by decide +kernel
theorem dX9_add_29 : decode cX9_add 29 = .ok (.aload_n 0, 1) := by decide +kernel
theorem dX9_add_30 : decode cX9_add 30 = .ok (.aload_n 0, 1) := by decide +kernel
theorem dX9_add_31 : decode cX9_add 31 = .ok (.getfield 15, 3) := by decide +kernel
theorem dX9_add_34 : decode cX9_add 34 = .ok (.iconst 2, 1) := by decide +kernel
theorem dX9_add_35 : decode cX9_add 35 = .ok (.aload_n 0, 1) := by decide +kernel
theorem dX9_add_36 : decode cX9_add 36 = .ok (.getfield 39, 3) := by decide +kernel
theorem dX9_add_39 : decode cX9_add 39 = .ok (.imul, 1) := by decide +kernel
theorem dX9_add_40 : decode cX9_add 40 = .ok (.invokestatic 53, 3) := by decide +kernel
theorem dX9_add_43 : decode cX9_add 43 = .ok (.putfield 15, 3) := by decide +kernel
theorem dX9_add_46 : decode cX9_add 46 = .ok (.aload_n 0, 1) := by decide +kernel
theorem dX9_add_47 : decode cX9_add 47 = .ok (.aload_n 0, 1) := by decide +kernel
theorem dX9_add_48 : decode cX9_add 48 = .ok (.getfield 18, 3) := by decide +kernel
theorem dX9_add_51 : decode cX9_add 51 = .ok (.iconst 2, 1) := by decide +kernel
theorem dX9_add_52 : decode cX9_add 52 = .ok (.aload_n 0, 1) := by decide +kernel
theorem dX9_add_53 : decode cX9_add 53 = .ok (.getfield 39, 3) := by decide +kernel
theorem dX9_add_56 : decode cX9_add 56 = .ok (.imul, 1) := by decide +kernel
theorem dX9_add_57 : decode cX9_add 57 = .ok (.invokestatic 53, 3) := by decide +kernel
theorem dX9_add_60 : decode cX9_add 60 = .ok (.putfield 18, 3) := by decide +kernel
theorem dX9_add_63 : decode cX9_add 63 = .ok (.aload_n 0, 1) := by decide +kernel
theorem dX9_add_64 : decode cX9_add 64 = .ok (.aload_n 0, 1) := by decide +kernel
theorem dX9_add_65 : decode cX9_add 65 = .ok (.getfield 21, 3) := by decide +kernel
theorem dX9_add_68 : decode cX9_add 68 = .ok (.iconst 2, 1) := by decide +kernel
theorem dX9_add_69 : decode cX9_add 69 = .ok (.aload_n 0, 1) := by decide +kernel
theorem dX9_add_70 : decode cX9_add 70 = .ok (.getfield 39, 3) := by decide +kernel
theorem dX9_add_73 : decode cX9_add 73 = .ok (.imul, 1) := by decide +kernel
theorem dX9_add_74 : decode cX9_add 74 = .ok (.invokestatic 53, 3) := by decide +kernel
theorem dX9_add_77 : decode cX9_add 77 = .ok (.putfield 21, 3) := by decide +kernel
theorem dX9_add_80 : decode cX9_add 80 = .ok (.aload_n 0, 1) := by decide +kernel
theorem dX9_add_81 : decode cX9_add 81 = .ok (.getfield 9, 3) := by decide +kernel
theorem dX9_add_84 : decode cX9_add 84 = .ok (.aload_n 0, 1) := by decide +kernel
theorem dX9_add_85 : decode cX9_add 85 = .ok (.getfield 39, 3) := by decide +kernel
theorem dX9_add_88 : decode cX9_add 88 = .ok (.iload_n 1, 1) := by decide +kernel
theorem dX9_add_89 : decode cX9_add 89 = .ok (.invokestatic 59, 3) := by decide +kernel
theorem dX9_add_92 : decode cX9_add 92 = .ok (.aload_n 0, 1) := by decide +kernel
theorem dX9_add_93 : decode cX9_add 93 = .ok (.getfield 15, 3) := by decide +kernel
theorem dX9_add_96 : decode cX9_add 96 = .ok (.aload_n 0, 1) := by decide +kernel
theorem dX9_add_97 : decode cX9_add 97 = .ok (.getfield 39, 3) := by decide +kernel
theorem dX9_add_100 : decode cX9_add 100 = .ok (.iload_n 2, 1) := by decide +kernel
theorem dX9_add_101 : decode cX9_add 101 = .ok (.invokestatic 59, 3) := by decide +kernel
theorem dX9_add_104 : decode cX9_add 104 = .ok (.aload_n 0, 1) := by decide +kernel
theorem dX9_add_105 : decode cX9_add 105 = .ok (.getfield 18, 3) := by decide +kernel
theorem dX9_add_108 : decode cX9_add 108 = .ok (.aload_n 0, 1) := by decide +kernel
theorem dX9_add_109 : decode cX9_add 109 = .ok (.getfield 39, 3) := by decide +kernel
theorem dX9_add_112 : decode cX9_add 112 = .ok (.iconst (-1), 1) := by decide +kernel
theorem dX9_add_113 : decode cX9_add 113 = .ok (.invokestatic 59, 3) := by decide +kernel
theorem dX9_add_116 : decode cX9_add 116 = .ok (.aload_n 0, 1) := by decide +kernel
theorem dX9_add_117 : decode cX9_add 117 = .ok (.getfield 21, 3) := by decide +kernel
theorem dX9_add_120 : decode cX9_add 120 = .ok (.aload_n 0, 1) := by decide +kernel
theorem dX9_add_121 : decode cX9_add 121 = .ok (.getfield 39, 3) := by decide +kernel
theorem dX9_add_124 : decode cX9_add 124 = .ok (.iconst 0, 1) := by decide +kernel
theorem dX9_add_125 : decode cX9_add 125 = .ok (.invokestatic 59, 3) := by decide +kernel
theorem dX9_add_128 : decode cX9_add 128 = .ok (.aload_n 0, 1) := by decide +kernel
theorem dX9_add_129 : decode cX9_add 129 = .ok (.dup, 1) := by decide +kernel
theorem dX9_add_130 : decode cX9_add 130 = .ok (.getfield 39, 3) := by decide +kernel
theorem dX9_add_133 : decode cX9_add 133 = .ok (.iconst 1, 1) := by decide +kernel
theorem dX9_add_134 : decode cX9_add 134 = .ok (.iadd, 1) := by decide +kernel
theorem dX9_add_135 : decode cX9_add 135 = .ok (.putfield 39, 3) := by decide +kernel
theorem dX9_add_138 : decode cX9_add 138 = .ok (.aload_n 0, 1) := by decide +kernel
theorem dX9_add_139 : decode cX9_add 139 = .ok (.getfield 39, 3) := by decide +kernel
theorem dX9_add_142 : decode cX9_add 142 = .ok (.iconst 1, 1) := by decide +kernel
theorem dX9_add_143 : decode cX9_add 143 = .ok (.isub, 1) := by decide +kernel
theorem dX9_add_144 : decode cX9_add 144 = .ok (.ireturn, 1) := by decide +kernel
theorem dX9_known_0 : decode cX9_known 0 = .ok (.iload_n 1, 1) := by decide +kernel
theorem dX9_known_1 : decode cX9_known 1 = .ok (.istore_n 2, 1) := by decide +kernel
theorem dX9_known_2 : decode cX9_known 2 = .ok (.iconst 0, 1) := by decide +kernel
theorem dX9_known_3 : decode cX9_known 3 = .ok (.istore_n 3, 1) := by decide +kernel
theorem dX9_known_4 : decode cX9_known 4 = .ok (.iload_n 3, 1) := by decide +kernel
theorem dX9_known_5 : decode cX9_known 5 = .ok (.aload_n 0, 1) := by decide +kernel
theorem dX9_known_6 : decode cX9_known 6 = .ok (.getfield 39, 3) := by decide +kernel
theorem dX9_known_9 : decode cX9_known 9 = .ok (.if_icmp .ge 29, 3) := by decide +kernel
theorem dX9_known_12 : decode cX9_known 12 = .ok (.aload_n 0, 1) := by decide +kernel
theorem dX9_known_13 : decode cX9_known 13 = .ok (.getfield 18, 3) := by decide +kernel
theorem dX9_known_16 : decode cX9_known 16 = .ok (.iload_n 2, 1) := by decide +kernel
theorem dX9_known_17 : decode cX9_known 17 = .ok (.invokestatic 63, 3) := by decide +kernel
theorem dX9_known_20 : decode cX9_known 20 = .ok (.ifCond .lt 18, 3) := by decide +kernel
theorem dX9_known_23 : decode cX9_known 23 = .ok (.aload_n 0, 1) := by decide +kernel
theorem dX9_known_24 : decode cX9_known 24 = .ok (.getfield 18, 3) := by decide +kernel
theorem dX9_known_27 : decode cX9_known 27 = .ok (.iload_n 2, 1) := by decide +kernel
theorem dX9_known_28 : decode cX9_known 28 = .ok (.invokestatic 63, 3) := by decide +kernel
theorem dX9_known_31 : decode cX9_known 31 = .ok (.istore_n 2, 1) := by decide +kernel
theorem dX9_known_32 : decode cX9_known 32 = .ok (.iinc 3 1, 3) := by decide +kernel
theorem dX9_known_35 : decode cX9_known 35 = .ok (.goto (-31), 3) := by decide +kernel
theorem dX9_known_38 : decode cX9_known 38 = .ok (.iload_n 2, 1) := by decide +kernel
theorem dX9_known_39 : decode cX9_known 39 = .ok (.ireturn, 1) := by decide +kernel
theorem dX9_kindOf_0 : decode cX9_kindOf 0 = .ok (.iload_n 1, 1) := by decide +kernel
theorem dX9_kindOf_1 : decode cX9_kindOf 1 = .ok (.ifCond .eq 8, 3) := by decide +kernel
theorem dX9_kindOf_4 : decode cX9_kindOf 4 = .ok (.iload_n 1, 1) := by decide +kernel
theorem dX9_kindOf_5 : decode cX9_kindOf 5 = .ok (.iconst 1, 1) := by decide +kernel
theorem dX9_kindOf_6 : decode cX9_kindOf 6 = .ok (.if_icmp .ne 7, 3) := by decide +kernel
theorem dX9_kindOf_9 : decode cX9_kindOf 9 = .ok (.iload_n 1, 1) := by decide +kernel
theorem dX9_kindOf_10 : decode cX9_kindOf 10 = .ok (.goto 19, 3) := by decide +kernel
theorem dX9_kindOf_13 : decode cX9_kindOf 13 = .ok (.aload_n 0, 1) := by decide +kernel
theorem dX9_kindOf_14 : decode cX9_kindOf 14 = .ok (.getfield 9, 3) := by decide +kernel
theorem dX9_kindOf_17 : decode cX9_kindOf 17 = .ok (.iload_n 1, 1) := by decide +kernel
theorem dX9_kindOf_18 : decode cX9_kindOf 18 = .ok (.invokestatic 63, 3) := by decide +kernel
theorem dX9_kindOf_21 : decode cX9_kindOf 21 = .ok (.ifCond .lt 7, 3) := by decide +kernel
theorem dX9_kindOf_24 : decode cX9_kindOf 24 = .ok (.iconst 2, 1) := by decide +kernel
theorem dX9_kindOf_25 : decode cX9_kindOf 25 = .ok (.goto 4, 3) := by decide +kernel
theorem dX9_kindOf_28 : decode cX9_kindOf 28 = .ok (.iconst 3, 1) := by decide +kernel
theorem dX9_kindOf_29 : decode cX9_kindOf 29 = .ok (.ireturn, 1) := by decide +kernel
theorem dX9_addPair_0 : decode cX9_addPair 0 = .ok (.aload_n 0, 1) := by decide +kernel
theorem dX9_addPair_1 : decode cX9_addPair 1 = .ok (.getfield 46, 3) := by decide +kernel
theorem dX9_addPair_4 : decode cX9_addPair 4 = .ok (.aload_n 0, 1) := by decide +kernel
theorem dX9_addPair_5 : decode cX9_addPair 5 = .ok (.getfield 24, 3) := by decide +kernel
theorem dX9_addPair_8 : decode cX9_addPair 8 = .ok (.arraylength, 1) := by decide +kernel
theorem dX9_addPair_9 : decode cX9_addPair 9 = .ok (.if_icmp .lt 54, 3) := by decide +kernel
theorem dX9_addPair_12 : decode cX9_addPair 12 = .ok (.aload_n 0, 1) := by decide +kernel
theorem dX9_addPair_13 : decode cX9_addPair 13 = .ok (.aload_n 0, 1) := by decide +kernel
theorem dX9_addPair_14 : decode cX9_addPair 14 = .ok (.getfield 24, 3) := by decide +kernel
theorem dX9_addPair_17 : decode cX9_addPair 17 = .ok (.iconst 2, 1) := by decide +kernel
theorem dX9_addPair_18 : decode cX9_addPair 18 = .ok (.aload_n 0, 1) := by decide +kernel
theorem dX9_addPair_19 : decode cX9_addPair 19 = .ok (.getfield 46, 3) := by decide +kernel
theorem dX9_addPair_22 : decode cX9_addPair 22 = .ok (.imul, 1) := by decide +kernel
theorem dX9_addPair_23 : decode cX9_addPair 23 = .ok (.invokestatic 53, 3) := by decide +kernel
theorem dX9_addPair_26 : decode cX9_addPair 26 = .ok (.putfield 24, 3) := by decide +kernel
theorem dX9_addPair_29 : decode cX9_addPair 29 = .ok (.aload_n 0, 1) := by decide +kernel
theorem dX9_addPair_30 : decode cX9_addPair 30 = .ok (.aload_n 0, 1) := by decide +kernel
theorem dX9_addPair_31 : decode cX9_addPair 31 = .ok (.getfield 27, 3) := by decide +kernel
theorem dX9_addPair_34 : decode cX9_addPair 34 = .ok (.iconst 2, 1) := by decide +kernel
theorem dX9_addPair_35 : decode cX9_addPair 35 = .ok (.aload_n 0, 1) := by decide +kernel
theorem dX9_addPair_36 : decode cX9_addPair 36 = .ok (.getfield 46, 3) := by decide +kernel
theorem dX9_addPair_39 : decode cX9_addPair 39 = .ok (.imul, 1) := by decide +kernel
theorem dX9_addPair_40 : decode cX9_addPair 40 = .ok (.invokestatic 53, 3) := by decide +kernel
theorem dX9_addPair_43 : decode cX9_addPair 43 = .ok (.putfield 27, 3) := by decide +kernel
theorem dX9_addPair_46 : decode cX9_addPair 46 = .ok (.aload_n 0, 1) := by decide +kernel
theorem dX9_addPair_47 : decode cX9_addPair 47 = .ok (.aload_n 0, 1) := by decide +kernel
theorem dX9_addPair_48 : decode cX9_addPair 48 = .ok (.getfield 30, 3) := by decide +kernel
theorem dX9_addPair_51 : decode cX9_addPair 51 = .ok (.iconst 2, 1) := by decide +kernel
theorem dX9_addPair_52 : decode cX9_addPair 52 = .ok (.aload_n 0, 1) := by decide +kernel
theorem dX9_addPair_53 : decode cX9_addPair 53 = .ok (.getfield 46, 3) := by decide +kernel
theorem dX9_addPair_56 : decode cX9_addPair 56 = .ok (.imul, 1) := by decide +kernel
theorem dX9_addPair_57 : decode cX9_addPair 57 = .ok (.invokestatic 53, 3) := by decide +kernel
theorem dX9_addPair_60 : decode cX9_addPair 60 = .ok (.putfield 30, 3) := by decide +kernel
theorem dX9_addPair_63 : decode cX9_addPair 63 = .ok (.aload_n 0, 1) := by decide +kernel
theorem dX9_addPair_64 : decode cX9_addPair 64 = .ok (.getfield 24, 3) := by decide +kernel
theorem dX9_addPair_67 : decode cX9_addPair 67 = .ok (.aload_n 0, 1) := by decide +kernel
theorem dX9_addPair_68 : decode cX9_addPair 68 = .ok (.getfield 46, 3) := by decide +kernel
theorem dX9_addPair_71 : decode cX9_addPair 71 = .ok (.iload_n 1, 1) := by decide +kernel
theorem dX9_addPair_72 : decode cX9_addPair 72 = .ok (.invokestatic 59, 3) := by decide +kernel
theorem dX9_addPair_75 : decode cX9_addPair 75 = .ok (.aload_n 0, 1) := by decide +kernel
theorem dX9_addPair_76 : decode cX9_addPair 76 = .ok (.getfield 27, 3) := by decide +kernel
theorem dX9_addPair_79 : decode cX9_addPair 79 = .ok (.aload_n 0, 1) := by decide +kernel
theorem dX9_addPair_80 : decode cX9_addPair 80 = .ok (.getfield 46, 3) := by decide +kernel
theorem dX9_addPair_83 : decode cX9_addPair 83 = .ok (.iload_n 2, 1) := by decide +kernel
theorem dX9_addPair_84 : decode cX9_addPair 84 = .ok (.invokestatic 59, 3) := by decide +kernel
theorem dX9_addPair_87 : decode cX9_addPair 87 = .ok (.aload_n 0, 1) := by decide +kernel
theorem dX9_addPair_88 : decode cX9_addPair 88 = .ok (.getfield 30, 3) := by decide +kernel
theorem dX9_addPair_91 : decode cX9_addPair 91 = .ok (.aload_n 0, 1) := by decide +kernel
theorem dX9_addPair_92 : decode cX9_addPair 92 = .ok (.getfield 46, 3) := by decide +kernel
theorem dX9_addPair_95 : decode cX9_addPair 95 = .ok (.iload_n 3, 1) := by decide +kernel
theorem dX9_addPair_96 : decode cX9_addPair 96 = .ok (.invokestatic 59, 3) := by decide +kernel
theorem dX9_addPair_99 : decode cX9_addPair 99 = .ok (.aload_n 0, 1) := by decide +kernel
theorem dX9_addPair_100 : decode cX9_addPair 100 = .ok (.dup, 1) := by decide +kernel
theorem dX9_addPair_101 : decode cX9_addPair 101 = .ok (.getfield 46, 3) := by decide +kernel
