theorem dX9_addPair_104 : decode cX9_addPair 104 = .ok (.iconst 1, 1) := by decide +kernel
theorem dX9_addPair_105 : decode cX9_addPair 105 = .ok (.iadd, 1) := by decide +kernel
theorem dX9_addPair_106 : decode cX9_addPair 106 = .ok (.putfield 46, 3) := by decide +kernel
theorem dX9_addPair_109 : decode cX9_addPair 109 = .ok (.return_, 1) := by decide +kernel
theorem dX9_matchNext_0 : decode cX9_matchNext 0 = .ok (.aload_n 0, 1) := by decide +kernel
theorem dX9_matchNext_1 : decode cX9_matchNext 1 = .ok (.dup, 1) := by decide +kernel
theorem dX9_matchNext_2 : decode cX9_matchNext 2 = .ok (.getfield 46, 3) := by decide +kernel
theorem dX9_matchNext_5 : decode cX9_matchNext 5 = .ok (.iconst 1, 1) := by decide +kernel
theorem dX9_matchNext_6 : decode cX9_matchNext 6 = .ok (.isub, 1) := by decide +kernel
theorem dX9_matchNext_7 : decode cX9_matchNext 7 = .ok (.putfield 46, 3) := by decide +kernel
theorem dX9_matchNext_10 : decode cX9_matchNext 10 = .ok (.aload_n 0, 1) := by decide +kernel
theorem dX9_matchNext_11 : decode cX9_matchNext 11 = .ok (.aload_n 0, 1) := by decide +kernel
theorem dX9_matchNext_12 : decode cX9_matchNext 12 = .ok (.getfield 24, 3) := by decide +kernel
theorem dX9_matchNext_15 : decode cX9_matchNext 15 = .ok (.aload_n 0, 1) := by decide +kernel
theorem dX9_matchNext_16 : decode cX9_matchNext 16 = .ok (.getfield 46, 3) := by decide +kernel
theorem dX9_matchNext_19 : decode cX9_matchNext 19 = .ok (.invokestatic 63, 3) := by decide +kernel
theorem dX9_matchNext_22 : decode cX9_matchNext 22 = .ok (.invokevirtual 67, 3) := by decide +kernel
theorem dX9_matchNext_25 : decode cX9_matchNext 25 = .ok (.istore_n 1, 1) := by decide +kernel
theorem dX9_matchNext_26 : decode cX9_matchNext 26 = .ok (.aload_n 0, 1) := by decide +kernel
theorem dX9_matchNext_27 : decode cX9_matchNext 27 = .ok (.aload_n 0, 1) := by decide +kernel
theorem dX9_matchNext_28 : decode cX9_matchNext 28 = .ok (.getfield 27, 3) := by decide +kernel
theorem dX9_matchNext_31 : decode cX9_matchNext 31 = .ok (.aload_n 0, 1) := by decide +kernel
theorem dX9_matchNext_32 : decode cX9_matchNext 32 = .ok (.getfield 46, 3) := by decide +kernel
theorem dX9_matchNext_35 : decode cX9_matchNext 35 = .ok (.invokestatic 63, 3) := by decide +kernel
theorem dX9_matchNext_38 : decode cX9_matchNext 38 = .ok (.invokevirtual 67, 3) := by decide +kernel
theorem dX9_matchNext_41 : decode cX9_matchNext 41 = .ok (.istore_n 2, 1) := by decide +kernel
theorem dX9_matchNext_42 : decode cX9_matchNext 42 = .ok (.iload_n 1, 1) := by decide +kernel
theorem dX9_matchNext_43 : decode cX9_matchNext 43 = .ok (.iload_n 2, 1) := by decide +kernel
theorem dX9_matchNext_44 : decode cX9_matchNext 44 = .ok (.if_icmp .ne 5, 3) := by decide +kernel
theorem dX9_matchNext_47 : decode cX9_matchNext 47 = .ok (.iconst 0, 1) := by decide +kernel
theorem dX9_matchNext_48 : decode cX9_matchNext 48 = .ok (.ireturn, 1) := by decide +kernel
theorem dX9_matchNext_49 : decode cX9_matchNext 49 = .ok (.aload_n 0, 1) := by decide +kernel
theorem dX9_matchNext_50 : decode cX9_matchNext 50 = .ok (.getfield 30, 3) := by decide +kernel
theorem dX9_matchNext_53 : decode cX9_matchNext 53 = .ok (.aload_n 0, 1) := by decide +kernel
theorem dX9_matchNext_54 : decode cX9_matchNext 54 = .ok (.getfield 46, 3) := by decide +kernel
theorem dX9_matchNext_57 : decode cX9_matchNext 57 = .ok (.invokestatic 63, 3) := by decide +kernel
theorem dX9_matchNext_60 : decode cX9_matchNext 60 = .ok (.iconst 1, 1) := by decide +kernel
theorem dX9_matchNext_61 : decode cX9_matchNext 61 = .ok (.if_icmp .ne 14, 3) := by decide +kernel
theorem dX9_matchNext_64 : decode cX9_matchNext 64 = .ok (.aload_n 0, 1) := by decide +kernel
theorem dX9_matchNext_65 : decode cX9_matchNext 65 = .ok (.getfield 18, 3) := by decide +kernel
theorem dX9_matchNext_68 : decode cX9_matchNext 68 = .ok (.iload_n 1, 1) := by decide +kernel
theorem dX9_matchNext_69 : decode cX9_matchNext 69 = .ok (.iload_n 2, 1) := by decide +kernel
theorem dX9_matchNext_70 : decode cX9_matchNext 70 = .ok (.invokestatic 59, 3) := by decide +kernel
theorem dX9_matchNext_73 : decode cX9_matchNext 73 = .ok (.iconst 0, 1) := by decide +kernel
theorem dX9_matchNext_74 : decode cX9_matchNext 74 = .ok (.ireturn, 1) := by decide +kernel
theorem dX9_matchNext_75 : decode cX9_matchNext 75 = .ok (.aload_n 0, 1) := by decide +kernel
theorem dX9_matchNext_76 : decode cX9_matchNext 76 = .ok (.iload_n 1, 1) := by decide +kernel
theorem dX9_matchNext_77 : decode cX9_matchNext 77 = .ok (.invokevirtual 71, 3) := by decide +kernel
theorem dX9_matchNext_80 : decode cX9_matchNext 80 = .ok (.istore_n 3, 1) := by decide +kernel
theorem dX9_matchNext_81 : decode cX9_matchNext 81 = .ok (.aload_n 0, 1) := by decide +kernel
theorem dX9_matchNext_82 : decode cX9_matchNext 82 = .ok (.iload_n 2, 1) := by decide +kernel
theorem dX9_matchNext_83 : decode cX9_matchNext 83 = .ok (.invokevirtual 71, 3) := by decide +kernel
theorem dX9_matchNext_86 : decode cX9_matchNext 86 = .ok (.istore 4, 2) := by decide +kernel
theorem dX9_matchNext_88 : decode cX9_matchNext 88 = .ok (.iload_n 3, 1) := by decide +kernel
theorem dX9_matchNext_89 : decode cX9_matchNext 89 = .ok (.iconst 3, 1) := by decide +kernel
theorem dX9_matchNext_90 : decode cX9_matchNext 90 = .ok (.if_icmp .ne 10, 3) := by decide +kernel
theorem dX9_matchNext_93 : decode cX9_matchNext 93 = .ok (.aload_n 0, 1) := by decide +kernel
theorem dX9_matchNext_94 : decode cX9_matchNext 94 = .ok (.iload_n 1, 1) := by decide +kernel
theorem dX9_matchNext_95 : decode cX9_matchNext 95 = .ok (.iload_n 2, 1) := by decide +kernel
theorem dX9_matchNext_96 : decode cX9_matchNext 96 = .ok (.invokevirtual 74, 3) := by decide +kernel
theorem dX9_matchNext_99 : decode cX9_matchNext 99 = .ok (.ireturn, 1) := by decide +kernel
theorem dX9_matchNext_100 : decode cX9_matchNext 100 = .ok (.iload 4, 2) := by decide +kernel
theorem dX9_matchNext_102 : decode cX9_matchNext 102 = .ok (.iconst 3, 1) := by decide +kernel
theorem dX9_matchNext_103 : decode cX9_matchNext 103 = .ok (.if_icmp .ne 10, 3) := by decide +kernel
theorem dX9_matchNext_106 : decode cX9_matchNext 106 = .ok (.aload_n 0, 1) := by decide +kernel
theorem dX9_matchNext_107 : decode cX9_matchNext 107 = .ok (.iload_n 2, 1) := by decide +kernel
theorem dX9_matchNext_108 : decode cX9_matchNext 108 = .ok (.iload_n 1, 1) := by decide +kernel
theorem dX9_matchNext_109 : decode cX9_matchNext 109 = .ok (.invokevirtual 74, 3) := by decide +kernel
theorem dX9_matchNext_112 : decode cX9_matchNext 112 = .ok (.ireturn, 1) := by decide +kernel
theorem dX9_matchNext_113 : decode cX9_matchNext 113 = .ok (.iload_n 3, 1) := by decide +kernel
theorem dX9_matchNext_114 : decode cX9_matchNext 114 = .ok (.iconst 2, 1) := by decide +kernel
theorem dX9_matchNext_115 : decode cX9_matchNext 115 = .ok (.if_icmp .ne 60, 3) := by decide +kernel
theorem dX9_matchNext_118 : decode cX9_matchNext 118 = .ok (.iload 4, 2) := by decide +kernel
theorem dX9_matchNext_120 : decode cX9_matchNext 120 = .ok (.iconst 2, 1) := by decide +kernel
theorem dX9_matchNext_121 : decode cX9_matchNext 121 = .ok (.if_icmp .ne 54, 3) := by decide +kernel
theorem dX9_matchNext_124 : decode cX9_matchNext 124 = .ok (.aload_n 0, 1) := by decide +kernel
theorem dX9_matchNext_125 : decode cX9_matchNext 125 = .ok (.iload_n 1, 1) := by decide +kernel
theorem dX9_matchNext_126 : decode cX9_matchNext 126 = .ok (.iload_n 2, 1) := by decide +kernel
theorem dX9_matchNext_127 : decode cX9_matchNext 127 = .ok (.iconst 1, 1) := by decide +kernel
theorem dX9_matchNext_128 : decode cX9_matchNext 128 = .ok (.invokevirtual 77, 3) := by decide +kernel
theorem dX9_matchNext_131 : decode cX9_matchNext 131 = .ok (.aload_n 0, 1) := by decide +kernel
theorem dX9_matchNext_132 : decode cX9_matchNext 132 = .ok (.aload_n 0, 1) := by decide +kernel
theorem dX9_matchNext_133 : decode cX9_matchNext 133 = .ok (.getfield 15, 3) := by decide +kernel
theorem dX9_matchNext_136 : decode cX9_matchNext 136 = .ok (.iload_n 1, 1) := by decide +kernel
theorem dX9_matchNext_137 : decode cX9_matchNext 137 = .ok (.invokestatic 63, 3) := by decide +kernel
theorem dX9_matchNext_140 : decode cX9_matchNext 140 = .ok (.aload_n 0, 1) := by decide +kernel
theorem dX9_matchNext_141 : decode cX9_matchNext 141 = .ok (.getfield 15, 3) := by decide +kernel
theorem dX9_matchNext_144 : decode cX9_matchNext 144 = .ok (.iload_n 2, 1) := by decide +kernel
theorem dX9_matchNext_145 : decode cX9_matchNext 145 = .ok (.invokestatic 63, 3) := by decide +kernel
theorem dX9_matchNext_148 : decode cX9_matchNext 148 = .ok (.iconst 0, 1) := by decide +kernel
theorem dX9_matchNext_149 : decode cX9_matchNext 149 = .ok (.invokevirtual 77, 3) := by decide +kernel
theorem dX9_matchNext_152 : decode cX9_matchNext 152 = .ok (.aload_n 0, 1) := by decide +kernel
theorem dX9_matchNext_153 : decode cX9_matchNext 153 = .ok (.aload_n 0, 1) := by decide +kernel
theorem dX9_matchNext_154 : decode cX9_matchNext 154 = .ok (.getfield 9, 3) := by decide +kernel
theorem dX9_matchNext_157 : decode cX9_matchNext 157 = .ok (.iload_n 1, 1) := by decide +kernel
theorem dX9_matchNext_158 : decode cX9_matchNext 158 = .ok (.invokestatic 63, 3) := by decide +kernel
theorem dX9_matchNext_161 : decode cX9_matchNext 161 = .ok (.aload_n 0, 1) := by decide +kernel
theorem dX9_matchNext_162 : decode cX9_matchNext 162 = .ok (.getfield 9, 3) := by decide +kernel
theorem dX9_matchNext_165 : decode cX9_matchNext 165 = .ok (.iload_n 2, 1) := by decide +kernel
theorem dX9_matchNext_166 : decode cX9_matchNext 166 = .ok (.invokestatic 63, 3) := by decide +kernel
theorem dX9_matchNext_169 : decode cX9_matchNext 169 = .ok (.iconst 0, 1) := by decide +kernel
theorem dX9_matchNext_170 : decode cX9_matchNext 170 = .ok (.invokevirtual 77, 3) := by decide +kernel
theorem dX9_matchNext_173 : decode cX9_matchNext 173 = .ok (.iconst 0, 1) := by decide +kernel
theorem dX9_matchNext_174 : decode cX9_matchNext 174 = .ok (.ireturn, 1) := by decide +kernel
theorem dX9_matchNext_175 : decode cX9_matchNext 175 = .ok (.aload_n 0, 1) := by decide +kernel
theorem dX9_matchNext_176 : decode cX9_matchNext 176 = .ok (.iload_n 3, 1) := by decide +kernel
theorem dX9_matchNext_177 : decode cX9_matchNext 177 = .ok (.putfield 81, 3) := by decide +kernel
theorem dX9_matchNext_180 : decode cX9_matchNext 180 = .ok (.aload_n 0, 1) := by decide +kernel
theorem dX9_matchNext_181 : decode cX9_matchNext 181 = .ok (.iload 4, 2) := by decide +kernel
theorem dX9_matchNext_183 : decode cX9_matchNext 183 = .ok (.putfield 84, 3) := by decide +kernel
theorem dX9_matchNext_186 : decode cX9_matchNext 186 = .ok (.iconst 4, 1) := by decide +kernel
theorem dX9_matchNext_187 : decode cX9_matchNext 187 = .ok (.ireturn, 1) := by decide +kernel
theorem dX9_become_0 : decode cX9_become 0 = .ok (.aload_n 0, 1) := by decide +kernel
theorem dX9_become_1 : decode cX9_become 1 = .ok (.iload_n 2, 1) := by decide +kernel
theorem dX9_become_2 : decode cX9_become 2 = .ok (.aload_n 0, 1) := by decide +kernel
theorem dX9_become_3 : decode cX9_become 3 = .ok (.invokevirtual 87, 3) := by decide +kernel
theorem dX9_become_6 : decode cX9_become 6 = .ok (.invokevirtual 91, 3) := by decide +kernel
theorem dX9_become_9 : decode cX9_become 9 = .ok (.aload_n 0, 1) := by decide +kernel
theorem dX9_become_10 : decode cX9_become 10 = .ok (.getfield 21, 3) := by decide +kernel
theorem dX9_become_13 : decode cX9_become 13 = .ok (.iload_n 1, 1) := by decide +kernel
theorem dX9_become_14 : decode cX9_become 14 = .ok (.invokestatic 63, 3) := by decide +kernel
theorem dX9_become_17 : decode cX9_become 17 = .ok (.aload_n 0, 1) := by decide +kernel
theorem dX9_become_18 : decode cX9_become 18 = .ok (.getfield 43, 3) := by decide +kernel
theorem dX9_become_21 : decode cX9_become 21 = .ok (.if_icmp .ne 5, 3) := by decide +kernel
theorem dX9_become_24 : decode cX9_become 24 = .ok (.iconst 5, 1) := by decide +kernel
theorem dX9_become_25 : decode cX9_become 25 = .ok (.ireturn, 1) := by decide +kernel
theorem dX9_become_26 : decode cX9_become 26 = .ok (.aload_n 0, 1) := by decide +kernel
theorem dX9_become_27 : decode cX9_become 27 = .ok (.getfield 18, 3) := by decide +kernel
theorem dX9_become_30 : decode cX9_become 30 = .ok (.iload_n 1, 1) := by decide +kernel
theorem dX9_become_31 : decode cX9_become 31 = .ok (.iload_n 2, 1) := by decide +kernel
theorem dX9_become_32 : decode cX9_become 32 = .ok (.invokestatic 59, 3) := by decide +kernel
theorem dX9_become_35 : decode cX9_become 35 = .ok (.iconst 0, 1) := by decide +kernel
theorem dX9_become_36 : decode cX9_become 36 = .ok (.ireturn, 1) := by decide +kernel
theorem dX9_newMark_0 : decode cX9_newMark 0 = .ok (.aload_n 0, 1) := by decide +kernel
theorem dX9_newMark_1 : decode cX9_newMark 1 = .ok (.dup, 1) := by decide +kernel
theorem dX9_newMark_2 : decode cX9_newMark 2 = .ok (.getfield 43, 3) := by decide +kernel
theorem dX9_newMark_5 : decode cX9_newMark 5 = .ok (.iconst 1, 1) := by decide +kernel
theorem dX9_newMark_6 : decode cX9_newMark 6 = .ok (.iadd, 1) := by decide +kernel
theorem dX9_newMark_7 : decode cX9_newMark 7 = .ok (.putfield 43, 3) := by decide +kernel
theorem dX9_newMark_10 : decode cX9_newMark 10 = .ok (.aload_n 0, 1) := by decide +kernel
theorem dX9_newMark_11 : decode cX9_newMark 11 = .ok (.getfield 43, 3) := by decide +kernel
theorem dX9_newMark_14 : decode cX9_newMark 14 = .ok (.ireturn, 1) := by decide +kernel
theorem dX9_markAll_0 : decode cX9_markAll 0 = .ok (.aload_n 0, 1) := by decide +kernel
theorem dX9_markAll_1 : decode cX9_markAll 1 = .ok (.iconst 0, 1) := by decide +kernel
theorem dX9_markAll_2 : decode cX9_markAll 2 = .ok (.putfield 95, 3) := by decide +kernel
theorem dX9_markAll_5 : decode cX9_markAll 5 = .ok (.aload_n 0, 1) := by decide +kernel
theorem dX9_markAll_6 : decode cX9_markAll 6 = .ok (.iload_n 1, 1) := by decide +kernel
theorem dX9_markAll_7 : decode cX9_markAll 7 = .ok (.invokevirtual 98, 3) := by decide +kernel
theorem dX9_markAll_10 : decode cX9_markAll 10 = .ok (.iconst 0, 1) := by decide +kernel
theorem dX9_markAll_11 : decode cX9_markAll 11 = .ok (.istore_n 3, 1) := by decide +kernel
theorem dX9_markAll_12 : decode cX9_markAll 12 = .ok (.iload_n 3, 1) := by decide +kernel
theorem dX9_markAll_13 : decode cX9_markAll 13 = .ok (.ldc 102, 2) := by decide +kernel
theorem dX9_markAll_15 : decode cX9_markAll 15 = .ok (.if_icmp .ge 85, 3) := by decide +kernel
theorem dX9_markAll_18 : decode cX9_markAll 18 = .ok (.aload_n 0, 1) := by decide +kernel
theorem dX9_markAll_19 : decode cX9_markAll 19 = .ok (.getfield 95, 3) := by decide +kernel
theorem dX9_markAll_22 : decode cX9_markAll 22 = .ok (.ifCond .le 78, 3) := by decide +kernel
theorem dX9_markAll_25 : decode cX9_markAll 25 = .ok (.aload_n 0, 1) := by decide +kernel
theorem dX9_markAll_26 : decode cX9_markAll 26 = .ok (.aload_n 0, 1) := by decide +kernel
theorem dX9_markAll_27 : decode cX9_markAll 27 = .ok (.invokevirtual 103, 3) := by decide +kernel
theorem dX9_markAll_30 : decode cX9_markAll 30 = .ok (.invokevirtual 67, 3) := by decide +kernel
theorem dX9_markAll_33 : decode cX9_markAll 33 = .ok (.istore 4, 2) := by decide +kernel
theorem dX9_markAll_35 : decode cX9_markAll 35 = .ok (.aload_n 0, 1) := by decide +kernel
theorem dX9_markAll_36 : decode cX9_markAll 36 = .ok (.getfield 21, 3) := by decide +kernel
theorem dX9_markAll_39 : decode cX9_markAll 39 = .ok (.iload 4, 2) := by decide +kernel
theorem dX9_markAll_41 : decode cX9_markAll 41 = .ok (.invokestatic 63, 3) := by decide +kernel
theorem dX9_markAll_44 : decode cX9_markAll 44 = .ok (.iload_n 2, 1) := by decide +kernel
theorem dX9_markAll_45 : decode cX9_markAll 45 = .ok (.if_icmp .eq 49, 3) := by decide +kernel
theorem dX9_markAll_48 : decode cX9_markAll 48 = .ok (.aload_n 0, 1) := by decide +kernel
theorem dX9_markAll_49 : decode cX9_markAll 49 = .ok (.getfield 21, 3) := by decide +kernel
theorem dX9_markAll_52 : decode cX9_markAll 52 = .ok (.iload 4, 2) := by decide +kernel
theorem dX9_markAll_54 : decode cX9_markAll 54 = .ok (.iload_n 2, 1) := by decide +kernel
theorem dX9_markAll_55 : decode cX9_markAll 55 = .ok (.invokestatic 59, 3) := by decide +kernel
theorem dX9_markAll_58 : decode cX9_markAll 58 = .ok (.aload_n 0, 1) := by decide +kernel
theorem dX9_markAll_59 : decode cX9_markAll 59 = .ok (.iload 4, 2) := by decide +kernel
theorem dX9_markAll_61 : decode cX9_markAll 61 = .ok (.invokevirtual 71, 3) := by decide +kernel
theorem dX9_markAll_64 : decode cX9_markAll 64 = .ok (.iconst 2, 1) := by decide +kernel
theorem dX9_markAll_65 : decode cX9_markAll 65 = .ok (.if_icmp .ne 29, 3) := by decide +kernel
theorem dX9_markAll_68 : decode cX9_markAll 68 = .ok (.aload_n 0, 1) := by decide +kernel
theorem dX9_markAll_69 : decode cX9_markAll 69 = .ok (.aload_n 0, 1) := by decide +kernel
theorem dX9_markAll_70 : decode cX9_markAll 70 = .ok (.getfield 15, 3) := by decide +kernel
theorem dX9_markAll_73 : decode cX9_markAll 73 = .ok (.iload 4, 2) := by decide +kernel
theorem dX9_markAll_75 : decode cX9_markAll 75 = .ok (.invokestatic 63, 3) := by decide +kernel
theorem dX9_markAll_78 : decode cX9_markAll 78 = .ok (.invokevirtual 98, 3) := by decide +kernel
theorem dX9_markAll_81 : decode cX9_markAll 81 = .ok (.aload_n 0, 1) := by decide +kernel
theorem dX9_markAll_82 : decode cX9_markAll 82 = .ok (.aload_n 0, 1) := by decide +kernel
theorem dX9_markAll_83 : decode cX9_markAll 83 = .ok (.getfield 9, 3) := by decide +kernel
theorem dX9_markAll_86 : decode cX9_markAll 86 = .ok (.iload 4, 2) := by decide +kernel
theorem dX9_markAll_88 : decode cX9_markAll 88 = .ok (.invokestatic 63, 3) := by decide +kernel
theorem dX9_markAll_91 : decode cX9_markAll 91 = .ok (.invokevirtual 98, 3) := by decide +kernel
theorem dX9_markAll_94 : decode cX9_markAll 94 = .ok (.iinc 3 1, 3) := by decide +kernel
theorem dX9_markAll_97 : decode cX9_markAll 97 = .ok (.goto (-85), 3) := by decide +kernel
theorem dX9_markAll_100 : decode cX9_markAll 100 = .ok (.return_, 1) := by decide +kernel
theorem dX9_addTrail_0 : decode cX9_addTrail 0 = .ok (.aload_n 0, 1) := by decide +kernel
theorem dX9_addTrail_1 : decode cX9_addTrail 1 = .ok (.getfield 95, 3) := by decide +kernel
theorem dX9_addTrail_4 : decode cX9_addTrail 4 = .ok (.aload_n 0, 1) := by decide +kernel
theorem dX9_addTrail_5 : decode cX9_addTrail 5 = .ok (.getfield 33, 3) := by decide +kernel
theorem dX9_addTrail_8 : decode cX9_addTrail 8 = .ok (.arraylength, 1) := by decide +kernel
theorem dX9_addTrail_9 : decode cX9_addTrail 9 = .ok (.if_icmp .lt 20, 3) := by decide +kernel
theorem dX9_addTrail_12 : decode cX9_addTrail 12 = .ok (.aload_n 0, 1) := by decide +kernel
theorem dX9_addTrail_13 : decode cX9_addTrail 13 = .ok (.aload_n 0, 1) := by decide +kernel
theorem dX9_addTrail_14 : decode cX9_addTrail 14 = .ok (.getfield 33, 3) := by decide +kernel
theorem dX9_addTrail_17 : decode cX9_addTrail 17 = .ok (.iconst 2, 1) := by decide +kernel
theorem dX9_addTrail_18 : decode cX9_addTrail 18 = .ok (.aload_n 0, 1) := by decide +kernel
theorem dX9_addTrail_19 : decode cX9_addTrail 19 = .ok (.getfield 95, 3) := by decide +kernel
theorem dX9_addTrail_22 : decode cX9_addTrail 22 = .ok (.imul, 1) := by decide +kernel
theorem dX9_addTrail_23 : decode cX9_addTrail 23 = .ok (.invokestatic 53, 3) := by decide +kernel
theorem dX9_addTrail_26 : decode cX9_addTrail 26 = .ok (.putfield 33, 3) := by decide +kernel
theorem dX9_addTrail_29 : decode cX9_addTrail 29 = .ok (.aload_n 0, 1) := by decide +kernel
theorem dX9_addTrail_30 : decode cX9_addTrail 30 = .ok (.getfield 33, 3) := by decide +kernel
theorem dX9_addTrail_33 : decode cX9_addTrail 33 = .ok (.aload_n 0, 1) := by decide +kernel
theorem dX9_addTrail_34 : decode cX9_addTrail 34 = .ok (.getfield 95, 3) := by decide +kernel
theorem dX9_addTrail_37 : decode cX9_addTrail 37 = .ok (.iload_n 1, 1) := by decide +kernel
theorem dX9_addTrail_38 : decode cX9_addTrail 38 = .ok (.invokestatic 59, 3) := by decide +kernel
theorem dX9_addTrail_41 : decode cX9_addTrail 41 = .ok (.aload_n 0, 1) := by decide +kernel
theorem dX9_addTrail_42 : decode cX9_addTrail 42 = .ok (.dup, 1) := by decide +kernel
theorem dX9_addTrail_43 : decode cX9_addTrail 43 = .ok (.getfield 95, 3) := by decide +kernel
theorem dX9_addTrail_46 : decode cX9_addTrail 46 = .ok (.iconst 1, 1) := by decide +kernel
theorem dX9_addTrail_47 : decode cX9_addTrail 47 = .ok (.iadd, 1) := by decide +kernel
theorem dX9_addTrail_48 : decode cX9_addTrail 48 = .ok (.putfield 95, 3) := by decide +kernel
theorem dX9_addTrail_51 : decode cX9_addTrail 51 = .ok (.return_, 1) := by decide +kernel
theorem dX9_takeTrail_0 : decode cX9_takeTrail 0 = .ok (.aload_n 0, 1) := by decide +kernel
theorem dX9_takeTrail_1 : decode cX9_takeTrail 1 = .ok (.dup, 1) := by decide +kernel
theorem dX9_takeTrail_2 : decode cX9_takeTrail 2 = .ok (.getfield 95, 3) := by decide +kernel
theorem dX9_takeTrail_5 : decode cX9_takeTrail 5 = .ok (.iconst 1, 1) := by decide +kernel
theorem dX9_takeTrail_6 : decode cX9_takeTrail 6 = .ok (.isub, 1) := by decide +kernel
theorem dX9_takeTrail_7 : decode cX9_takeTrail 7 = .ok (.putfield 95, 3) := by decide +kernel
theorem dX9_takeTrail_10 : decode cX9_takeTrail 10 = .ok (.aload_n 0, 1) := by decide +kernel
theorem dX9_takeTrail_11 : decode cX9_takeTrail 11 = .ok (.getfield 33, 3) := by decide +kernel
theorem dX9_takeTrail_14 : decode cX9_takeTrail 14 = .ok (.aload_n 0, 1) := by decide +kernel
theorem dX9_takeTrail_15 : decode cX9_takeTrail 15 = .ok (.getfield 95, 3) := by decide +kernel
theorem dX9_takeTrail_18 : decode cX9_takeTrail 18 = .ok (.invokestatic 63, 3) := by decide +kernel
theorem dX9_takeTrail_21 : decode cX9_takeTrail 21 = .ok (.ireturn, 1) := by decide +kernel
theorem dX9_sizeOf_0 : decode cX9_sizeOf 0 = .ok (.iconst 0, 1) := by decide +kernel
theorem dX9_sizeOf_1 : decode cX9_sizeOf 1 = .ok (.istore_n 2, 1) := by decide +kernel
theorem dX9_sizeOf_2 : decode cX9_sizeOf 2 = .ok (.aload_n 0, 1) := by decide +kernel
theorem dX9_sizeOf_3 : decode cX9_sizeOf 3 = .ok (.iconst 0, 1) := by decide +kernel
theorem dX9_sizeOf_4 : decode cX9_sizeOf 4 = .ok (.putfield 95, 3) := by decide +kernel
theorem dX9_sizeOf_7 : decode cX9_sizeOf 7 = .ok (.aload_n 0, 1) := by decide +kernel
theorem dX9_sizeOf_8 : decode cX9_sizeOf 8 = .ok (.iload_n 1, 1) := by decide +kernel
theorem dX9_sizeOf_9 : decode cX9_sizeOf 9 = .ok (.invokevirtual 98, 3) := by decide +kernel
theorem dX9_sizeOf_12 : decode cX9_sizeOf 12 = .ok (.iload_n 2, 1) := by decide +kernel
theorem dX9_sizeOf_13 : decode cX9_sizeOf 13 = .ok (.sipush 200, 3) := by decide +kernel
theorem dX9_sizeOf_16 : decode cX9_sizeOf 16 = .ok (.if_icmp .gt 58, 3) := by decide +kernel
theorem dX9_sizeOf_19 : decode cX9_sizeOf 19 = .ok (.aload_n 0, 1) := by decide +kernel
theorem dX9_sizeOf_20 : decode cX9_sizeOf 20 = .ok (.getfield 95, 3) := by decide +kernel
theorem dX9_sizeOf_23 : decode cX9_sizeOf 23 = .ok (.ifCond .le 51, 3) := by decide +kernel
theorem dX9_sizeOf_26 : decode cX9_sizeOf 26 = .ok (.aload_n 0, 1) := by decide +kernel
theorem dX9_sizeOf_27 : decode cX9_sizeOf 27 = .ok (.aload_n 0, 1) := by decide +kernel
theorem dX9_sizeOf_28 : decode cX9_sizeOf 28 = .ok (.invokevirtual 103, 3) := by decide +kernel
theorem dX9_sizeOf_31 : decode cX9_sizeOf 31 = .ok (.invokevirtual 67, 3) := by decide +kernel
theorem dX9_sizeOf_34 : decode cX9_sizeOf 34 = .ok (.istore_n 3, 1) := by decide +kernel
theorem dX9_sizeOf_35 : decode cX9_sizeOf 35 = .ok (.aload_n 0, 1) := by decide +kernel
theorem dX9_sizeOf_36 : decode cX9_sizeOf 36 = .ok (.iload_n 3, 1) := by decide +kernel
theorem dX9_sizeOf_37 : decode cX9_sizeOf 37 = .ok (.invokevirtual 71, 3) := by decide +kernel
theorem dX9_sizeOf_40 : decode cX9_sizeOf 40 = .ok (.iconst 2, 1) := by decide +kernel
theorem dX9_sizeOf_41 : decode cX9_sizeOf 41 = .ok (.if_icmp .ne 27, 3) := by decide +kernel
theorem dX9_sizeOf_44 : decode cX9_sizeOf 44 = .ok (.aload_n 0, 1) := by decide +kernel
theorem dX9_sizeOf_45 : decode cX9_sizeOf 45 = .ok (.aload_n 0, 1) := by decide +kernel
theorem dX9_sizeOf_46 : decode cX9_sizeOf 46 = .ok (.getfield 15, 3) := by decide +kernel
theorem dX9_sizeOf_49 : decode cX9_sizeOf 49 = .ok (.iload_n 3, 1) := by decide +kernel
theorem dX9_sizeOf_50 : decode cX9_sizeOf 50 = .ok (.invokestatic 63, 3) := by decide +kernel
theorem dX9_sizeOf_53 : decode cX9_sizeOf 53 = .ok (.invokevirtual 98, 3) := by decide +kernel
theorem dX9_sizeOf_56 : decode cX9_sizeOf 56 = .ok (.aload_n 0, 1) := by decide +kernel
theorem dX9_sizeOf_57 : decode cX9_sizeOf 57 = .ok (.aload_n 0, 1) := by decide +kernel
theorem dX9_sizeOf_58 : decode cX9_sizeOf 58 = .ok (.getfield 9, 3) := by decide +kernel
theorem dX9_sizeOf_61 : decode cX9_sizeOf 61 = .ok (.iload_n 3, 1) := by decide +kernel
theorem dX9_sizeOf_62 : decode cX9_sizeOf 62 = .ok (.invokestatic 63, 3) := by decide +kernel
theorem dX9_sizeOf_65 : decode cX9_sizeOf 65 = .ok (.invokevirtual 98, 3) := by decide +kernel
theorem dX9_sizeOf_68 : decode cX9_sizeOf 68 = .ok (.iinc 2 1, 3) := by decide +kernel
theorem dX9_sizeOf_71 : decode cX9_sizeOf 71 = .ok (.goto (-59), 3) := by decide +kernel
theorem dX9_sizeOf_74 : decode cX9_sizeOf 74 = .ok (.iload_n 2, 1) := by decide +kernel
theorem dX9_sizeOf_75 : decode cX9_sizeOf 75 = .ok (.ireturn, 1) := by decide +kernel
theorem dX9_spell_0 : decode cX9_spell 0 = .ok (.iconst 0, 1) := by decide +kernel
theorem dX9_spell_1 : decode cX9_spell 1 = .ok (.istore 4, 2) := by decide +kernel
theorem dX9_spell_3 : decode cX9_spell 3 = .ok (.aload_n 2, 1) := by decide +kernel
theorem dX9_spell_4 : decode cX9_spell 4 = .ok (.iconst 0, 1) := by decide +kernel
theorem dX9_spell_5 : decode cX9_spell 5 = .ok (.putfield 106, 3) := by decide +kernel
theorem dX9_spell_8 : decode cX9_spell 8 = .ok (.aload_n 0, 1) := by decide +kernel
theorem dX9_spell_9 : decode cX9_spell 9 = .ok (.iconst 0, 1) := by decide +kernel
theorem dX9_spell_10 : decode cX9_spell 10 = .ok (.putfield 95, 3) := by decide +kernel
theorem dX9_spell_13 : decode cX9_spell 13 = .ok (.aload_n 0, 1) := by decide +kernel
theorem dX9_spell_14 : decode cX9_spell 14 = .ok (.iload_n 1, 1) := by decide +kernel
theorem dX9_spell_15 : decode cX9_spell 15 = .ok (.invokevirtual 98, 3) := by decide +kernel
theorem dX9_spell_18 : decode cX9_spell 18 = .ok (.iconst 0, 1) := by decide +kernel
theorem dX9_spell_19 : decode cX9_spell 19 = .ok (.istore 5, 2) := by decide +kernel
theorem dX9_spell_21 : decode cX9_spell 21 = .ok (.iload 5, 2) := by decide +kernel
theorem dX9_spell_23 : decode cX9_spell 23 = .ok (.sipush 200, 3) := by decide +kernel
theorem dX9_spell_26 : decode cX9_spell 26 = .ok (.if_icmp .ge 136, 3) := by decide +kernel
theorem dX9_spell_29 : decode cX9_spell 29 = .ok (.aload_n 0, 1) := by decide +kernel
theorem dX9_spell_30 : decode cX9_spell 30 = .ok (.getfield 95, 3) := by decide +kernel
theorem dX9_spell_33 : decode cX9_spell 33 = .ok (.ifCond .le 129, 3) := by decide +kernel
theorem dX9_spell_36 : decode cX9_spell 36 = .ok (.aload_n 0, 1) := by decide +kernel
theorem dX9_spell_37 : decode cX9_spell 37 = .ok (.aload_n 0, 1) := by decide +kernel
theorem dX9_spell_38 : decode cX9_spell 38 = .ok (.invokevirtual 103, 3) := by decide +kernel
theorem dX9_spell_41 : decode cX9_spell 41 = .ok (.invokevirtual 67, 3) := by decide +kernel
theorem dX9_spell_44 : decode cX9_spell 44 = .ok (.istore 6, 2) := by decide +kernel
theorem dX9_spell_46 : decode cX9_spell 46 = .ok (.aload_n 0, 1) := by decide +kernel
theorem dX9_spell_47 : decode cX9_spell 47 = .ok (.iload 6, 2) := by decide +kernel
theorem dX9_spell_49 : decode cX9_spell 49 = .ok (.invokevirtual 71, 3) := by decide +kernel
theorem dX9_spell_52 : decode cX9_spell 52 = .ok (.istore 7, 2) := by decide +kernel
theorem dX9_spell_54 : decode cX9_spell 54 = .ok (.iload 7, 2) := by decide +kernel
theorem dX9_spell_56 : decode cX9_spell 56 = .ok (.iconst 3, 1) := by decide +kernel
theorem dX9_spell_57 : decode cX9_spell 57 = .ok (.if_icmp .eq 12, 3) := by decide +kernel
theorem dX9_spell_60 : decode cX9_spell 60 = .ok (.aload_n 2, 1) := by decide +kernel
theorem dX9_spell_61 : decode cX9_spell 61 = .ok (.iload 7, 2) := by decide +kernel
theorem dX9_spell_63 : decode cX9_spell 63 = .ok (.invokevirtual 111, 3) := by decide +kernel
theorem dX9_spell_66 : decode cX9_spell 66 = .ok (.goto 58, 3) := by decide +kernel
theorem dX9_spell_69 : decode cX9_spell 69 = .ok (.aload_n 0, 1) := by decide +kernel
theorem dX9_spell_70 : decode cX9_spell 70 = .ok (.getfield 21, 3) := by decide +kernel
theorem dX9_spell_73 : decode cX9_spell 73 = .ok (.iload 6, 2) := by decide +kernel
theorem dX9_spell_75 : decode cX9_spell 75 = .ok (.invokestatic 63, 3) := by decide +kernel
theorem dX9_spell_78 : decode cX9_spell 78 = .ok (.iload_n 3, 1) := by decide +kernel
theorem dX9_spell_79 : decode cX9_spell 79 = .ok (.if_icmp .ne 16, 3) := by decide +kernel
theorem dX9_spell_82 : decode cX9_spell 82 = .ok (.aload_n 2, 1) := by decide +kernel
theorem dX9_spell_83 : decode cX9_spell 83 = .ok (.sipush 1000, 3) := by decide +kernel
theorem dX9_spell_86 : decode cX9_spell 86 = .ok (.iload 6, 2) := by decide +kernel
theorem dX9_spell_88 : decode cX9_spell 88 = .ok (.iadd, 1) := by decide +kernel
theorem dX9_spell_89 : decode cX9_spell 89 = .ok (.invokevirtual 111, 3) := by decide +kernel
theorem dX9_spell_92 : decode cX9_spell 92 = .ok (.goto 32, 3) := by decide +kernel
theorem dX9_spell_95 : decode cX9_spell 95 = .ok (.aload_n 0, 1) := by decide +kernel
theorem dX9_spell_96 : decode cX9_spell 96 = .ok (.iload 6, 2) := by decide +kernel
theorem dX9_spell_98 : decode cX9_spell 98 = .ok (.iload 4, 2) := by decide +kernel
theorem dX9_spell_100 : decode cX9_spell 100 = .ok (.invokevirtual 113, 3) := by decide +kernel
theorem dX9_spell_103 : decode cX9_spell 103 = .ok (.istore 8, 2) := by decide +kernel
theorem dX9_spell_105 : decode cX9_spell 105 = .ok (.iload 4, 2) := by decide +kernel
theorem dX9_spell_107 : decode cX9_spell 107 = .ok (.iload 8, 2) := by decide +kernel
theorem dX9_spell_109 : decode cX9_spell 109 = .ok (.iconst 1, 1) := by decide +kernel
theorem dX9_spell_110 : decode cX9_spell 110 = .ok (.iadd, 1) := by decide +kernel
theorem dX9_spell_111 : decode cX9_spell 111 = .ok (.invokestatic 116, 3) := by decide +kernel
theorem dX9_spell_114 : decode cX9_spell 114 = .ok (.istore 4, 2) := by decide +kernel
theorem dX9_spell_116 : decode cX9_spell 116 = .ok (.aload_n 2, 1) := by decide +kernel
theorem dX9_spell_117 : decode cX9_spell 117 = .ok (.iconst 3, 1) := by decide +kernel
theorem dX9_spell_118 : decode cX9_spell 118 = .ok (.iload 8, 2) := by decide +kernel
theorem dX9_spell_120 : decode cX9_spell 120 = .ok (.iadd, 1) := by decide +kernel
theorem dX9_spell_121 : decode cX9_spell 121 = .ok (.invokevirtual 111, 3) := by decide +kernel
theorem dX9_spell_124 : decode cX9_spell 124 = .ok (.iload 7, 2) := by decide +kernel
theorem dX9_spell_126 : decode cX9_spell 126 = .ok (.iconst 2, 1) := by decide +kernel
theorem dX9_spell_127 : decode cX9_spell 127 = .ok (.if_icmp .ne 29, 3) := by decide +kernel
theorem dX9_spell_130 : decode cX9_spell 130 = .ok (.aload_n 0, 1) := by decide +kernel
theorem dX9_spell_131 : decode cX9_spell 131 = .ok (.aload_n 0, 1) := by decide +kernel
theorem dX9_spell_132 : decode cX9_spell 132 = .ok (.getfield 15, 3) := by decide +kernel
theorem dX9_spell_135 : decode cX9_spell 135 = .ok (.iload 6, 2) := by decide +kernel
theorem dX9_spell_137 : decode cX9_spell 137 = .ok (.invokestatic 63, 3) := by decide +kernel
theorem dX9_spell_140 : decode cX9_spell 140 = .ok (.invokevirtual 98, 3) := by decide +kernel
theorem dX9_spell_143 : decode cX9_spell 143 = .ok (.aload_n 0, 1) := by decide +kernel
theorem dX9_spell_144 : decode cX9_spell 144 = .ok (.aload_n 0, 1) := by decide +kernel
theorem dX9_spell_145 : decode cX9_spell 145 = .ok (.getfield 9, 3) := by decide +kernel
theorem dX9_spell_148 : decode cX9_spell 148 = .ok (.iload 6, 2) := by decide +kernel
theorem dX9_spell_150 : decode cX9_spell 150 = .ok (.invokestatic 63, 3) := by decide +kernel
theorem dX9_spell_153 : decode cX9_spell 153 = .ok (.invokevirtual 98, 3) := by decide +kernel
theorem dX9_spell_156 : decode cX9_spell 156 = .ok (.iinc 5 1, 3) := by decide +kernel
theorem dX9_spell_159 : decode cX9_spell 159 = .ok (.goto (-138), 3) := by decide +kernel
theorem dX9_spell_162 : decode cX9_spell 162 = .ok (.return_, 1) := by decide +kernel
theorem dX9_numberOf_0 : decode cX9_numberOf 0 = .ok (.iconst 0, 1) := by decide +kernel
theorem dX9_numberOf_1 : decode cX9_numberOf 1 = .ok (.istore_n 3, 1) := by decide +kernel
theorem dX9_numberOf_2 : decode cX9_numberOf 2 = .ok (.iload_n 3, 1) := by decide +kernel
theorem dX9_numberOf_3 : decode cX9_numberOf 3 = .ok (.iload_n 2, 1) := by decide +kernel
theorem dX9_numberOf_4 : decode cX9_numberOf 4 = .ok (.if_icmp .ge 23, 3) := by decide +kernel
theorem dX9_numberOf_7 : decode cX9_numberOf 7 = .ok (.aload_n 0, 1) := by decide +kernel
theorem dX9_numberOf_8 : decode cX9_numberOf 8 = .ok (.getfield 36, 3) := by decide +kernel
theorem dX9_numberOf_11 : decode cX9_numberOf 11 = .ok (.iload_n 3, 1) := by decide +kernel
theorem dX9_numberOf_12 : decode cX9_numberOf 12 = .ok (.invokestatic 63, 3) := by decide +kernel
theorem dX9_numberOf_15 : decode cX9_numberOf 15 = .ok (.iload_n 1, 1) := by decide +kernel
theorem dX9_numberOf_16 : decode cX9_numberOf 16 = .ok (.if_icmp .ne 5, 3) := by decide +kernel
theorem dX9_numberOf_19 : decode cX9_numberOf 19 = .ok (.iload_n 3, 1) := by decide +kernel
theorem dX9_numberOf_20 : decode cX9_numberOf 20 = .ok (.ireturn, 1) := by decide +kernel
theorem dX9_numberOf_21 : decode cX9_numberOf 21 = .ok (.iinc 3 1, 3) := by decide +kernel
theorem dX9_numberOf_24 : decode cX9_numberOf 24 = .ok (.goto (-22), 3) := by decide +kernel
theorem dX9_numberOf_27 : decode cX9_numberOf 27 = .ok (.aload_n 0, 1) := by decide +kernel
theorem dX9_numberOf_28 : decode cX9_numberOf 28 = .ok (.getfield 36, 3) := by decide +kernel
theorem dX9_numberOf_31 : decode cX9_numberOf 31 = .ok (.iload_n 2, 1) := by decide +kernel
theorem dX9_numberOf_32 : decode cX9_numberOf 32 = .ok (.iload_n 1, 1) := by decide +kernel
theorem dX9_numberOf_33 : decode cX9_numberOf 33 = .ok (.invokestatic 59, 3) := by decide +kernel
theorem dX9_numberOf_36 : decode cX9_numberOf 36 = .ok (.iload_n 2, 1) := by decide +kernel
theorem dX9_numberOf_37 : decode cX9_numberOf 37 = .ok (.ireturn, 1) := by decide +kernel
theorem dX9_make_0 : decode cX9_make 0 = .ok (.aload_n 0, 1) := by decide +kernel
theorem dX9_make_1 : decode cX9_make 1 = .ok (.getfield 36, 3) := by decide +kernel
theorem dX9_make_4 : decode cX9_make 4 = .ok (.iconst (-1), 1) := by decide +kernel
theorem dX9_make_5 : decode cX9_make 5 = .ok (.invokestatic 121, 3) := by decide +kernel
theorem dX9_make_8 : decode cX9_make 8 = .ok (.aload_n 0, 1) := by decide +kernel
theorem dX9_make_9 : decode cX9_make 9 = .ok (.iconst 0, 1) := by decide +kernel
theorem dX9_make_10 : decode cX9_make 10 = .ok (.putfield 95, 3) := by decide +kernel
theorem dX9_make_13 : decode cX9_make 13 = .ok (.aload_n 1, 1) := by decide +kernel
theorem dX9_make_14 : decode cX9_make 14 = .ok (.getfield 106, 3) := by decide +kernel
theorem dX9_make_17 : decode cX9_make 17 = .ok (.iconst 1, 1) := by decide +kernel
theorem dX9_make_18 : decode cX9_make 18 = .ok (.isub, 1) := by decide +kernel
theorem dX9_make_19 : decode cX9_make 19 = .ok (.istore_n 2, 1) := by decide +kernel
theorem dX9_make_20 : decode cX9_make 20 = .ok (.iload_n 2, 1) := by decide +kernel
theorem dX9_make_21 : decode cX9_make 21 = .ok (.ifCond .lt 122, 3) := by decide +kernel
theorem dX9_make_24 : decode cX9_make 24 = .ok (.aload_n 1, 1) := by decide +kernel
theorem dX9_make_25 : decode cX9_make 25 = .ok (.iload_n 2, 1) := by decide +kernel
theorem dX9_make_26 : decode cX9_make 26 = .ok (.invokevirtual 125, 3) := by decide +kernel
theorem dX9_make_29 : decode cX9_make 29 = .ok (.istore_n 3, 1) := by decide +kernel
theorem dX9_make_30 : decode cX9_make 30 = .ok (.iload_n 3, 1) := by decide +kernel
theorem dX9_make_31 : decode cX9_make 31 = .ok (.iconst 2, 1) := by decide +kernel
theorem dX9_make_32 : decode cX9_make 32 = .ok (.if_icmp .ne 30, 3) := by decide +kernel
theorem dX9_make_35 : decode cX9_make 35 = .ok (.aload_n 0, 1) := by decide +kernel
theorem dX9_make_36 : decode cX9_make 36 = .ok (.invokevirtual 103, 3) := by decide +kernel
theorem dX9_make_39 : decode cX9_make 39 = .ok (.istore 4, 2) := by decide +kernel
theorem dX9_make_41 : decode cX9_make 41 = .ok (.aload_n 0, 1) := by decide +kernel
theorem dX9_make_42 : decode cX9_make 42 = .ok (.invokevirtual 103, 3) := by decide +kernel
theorem dX9_make_45 : decode cX9_make 45 = .ok (.istore 5, 2) := by decide +kernel
theorem dX9_make_47 : decode cX9_make 47 = .ok (.aload_n 0, 1) := by decide +kernel
theorem dX9_make_48 : decode cX9_make 48 = .ok (.aload_n 0, 1) := by decide +kernel
theorem dX9_make_49 : decode cX9_make 49 = .ok (.iload 4, 2) := by decide +kernel
theorem dX9_make_51 : decode cX9_make 51 = .ok (.iload 5, 2) := by decide +kernel
theorem dX9_make_53 : decode cX9_make 53 = .ok (.invokevirtual 49, 3) := by decide +kernel
theorem dX9_make_56 : decode cX9_make 56 = .ok (.invokevirtual 98, 3) := by decide +kernel
theorem dX9_make_59 : decode cX9_make 59 = .ok (.goto 78, 3) := by decide +kernel
theorem dX9_make_62 : decode cX9_make 62 = .ok (.iload_n 3, 1) := by decide +kernel
theorem dX9_make_63 : decode cX9_make 63 = .ok (.iconst 3, 1) := by decide +kernel
theorem dX9_make_64 : decode cX9_make 64 = .ok (.if_icmp .ge 11, 3) := by decide +kernel
theorem dX9_make_67 : decode cX9_make 67 = .ok (.aload_n 0, 1) := by decide +kernel
theorem dX9_make_68 : decode cX9_make 68 = .ok (.iload_n 3, 1) := by decide +kernel
theorem dX9_make_69 : decode cX9_make 69 = .ok (.invokevirtual 98, 3) := by decide +kernel
theorem dX9_make_72 : decode cX9_make 72 = .ok (.goto 65, 3) := by decide +kernel
theorem dX9_make_75 : decode cX9_make 75 = .ok (.iload_n 3, 1) := by decide +kernel
theorem dX9_make_76 : decode cX9_make 76 = .ok (.sipush 1000, 3) := by decide +kernel
theorem dX9_make_79 : decode cX9_make 79 = .ok (.if_icmp .lt 15, 3) := by decide +kernel
theorem dX9_make_82 : decode cX9_make 82 = .ok (.aload_n 0, 1) := by decide +kernel
theorem dX9_make_83 : decode cX9_make 83 = .ok (.iload_n 3, 1) := by decide +kernel
theorem dX9_make_84 : decode cX9_make 84 = .ok (.sipush 1000, 3) := by decide +kernel
theorem dX9_make_87 : decode cX9_make 87 = .ok (.isub, 1) := by decide +kernel
theorem dX9_make_88 : decode cX9_make 88 = .ok (.invokevirtual 98, 3) := by decide +kernel
theorem dX9_make_91 : decode cX9_make 91 = .ok (.goto 46, 3) := by decide +kernel
theorem dX9_make_94 : decode cX9_make 94 = .ok (.aload_n 0, 1) := by decide +kernel
theorem dX9_make_95 : decode cX9_make 95 = .ok (.getfield 36, 3) := by decide +kernel
theorem dX9_make_98 : decode cX9_make 98 = .ok (.iload_n 3, 1) := by decide +kernel
theorem dX9_make_99 : decode cX9_make 99 = .ok (.iconst 3, 1) := by decide +kernel
theorem dX9_make_100 : decode cX9_make 100 = .ok (.isub, 1) := by decide +kernel
theorem dX9_make_101 : decode cX9_make 101 = .ok (.invokestatic 63, 3) := by decide +kernel
theorem dX9_make_104 : decode cX9_make 104 = .ok (.ifCond .ge 19, 3) := by decide +kernel
theorem dX9_make_107 : decode cX9_make 107 = .ok (.aload_n 0, 1) := by decide +kernel
theorem dX9_make_108 : decode cX9_make 108 = .ok (.getfield 36, 3) := by decide +kernel
theorem dX9_make_111 : decode cX9_make 111 = .ok (.iload_n 3, 1) := by decide +kernel
theorem dX9_make_112 : decode cX9_make 112 = .ok (.iconst 3, 1) := by decide +kernel
theorem dX9_make_113 : decode cX9_make 113 = .ok (.isub, 1) := by decide +kernel
theorem dX9_make_114 : decode cX9_make 114 = .ok (.aload_n 0, 1) := by decide +kernel
theorem dX9_make_115 : decode cX9_make 115 = .ok (.iconst (-1), 1) := by decide +kernel
theorem dX9_make_116 : decode cX9_make 116 = .ok (.iconst (-1), 1) := by decide +kernel
theorem dX9_make_117 : decode cX9_make 117 = .ok (.invokevirtual 49, 3) := by decide +kernel
theorem dX9_make_120 : decode cX9_make 120 = .ok (.invokestatic 59, 3) := by decide +kernel
theorem dX9_make_123 : decode cX9_make 123 = .ok (.aload_n 0, 1) := by decide +kernel
theorem dX9_make_124 : decode cX9_make 124 = .ok (.aload_n 0, 1) := by decide +kernel
theorem dX9_make_125 : decode cX9_make 125 = .ok (.getfield 36, 3) := by decide +kernel
theorem dX9_make_128 : decode cX9_make 128 = .ok (.iload_n 3, 1) := by decide +kernel
theorem dX9_make_129 : decode cX9_make 129 = .ok (.iconst 3, 1) := by decide +kernel
theorem dX9_make_130 : decode cX9_make 130 = .ok (.isub, 1) := by decide +kernel
theorem dX9_make_131 : decode cX9_make 131 = .ok (.invokestatic 63, 3) := by decide +kernel
theorem dX9_make_134 : decode cX9_make 134 = .ok (.invokevirtual 98, 3) := by decide +kernel
theorem dX9_make_137 : decode cX9_make 137 = .ok (.iinc 2 (-1), 3) := by decide +kernel
theorem dX9_make_140 : decode cX9_make 140 = .ok (.goto (-120), 3) := by decide +kernel
theorem dX9_make_143 : decode cX9_make 143 = .ok (.aload_n 0, 1) := by decide +kernel
theorem dX9_make_144 : decode cX9_make 144 = .ok (.invokevirtual 103, 3) := by decide +kernel
theorem dX9_make_147 : decode cX9_make 147 = .ok (.ireturn, 1) := by decide +kernel
theorem dX9_ofSign_0 : decode cX9_ofSign 0 = .ok (.iload_n 1, 1) := by decide +kernel
theorem dX9_ofSign_1 : decode cX9_ofSign 1 = .ok (.bipush 63, 2) := by decide +kernel
theorem dX9_ofSign_3 : decode cX9_ofSign 3 = .ok (.if_icmp .ne 27, 3) := by decide +kernel
theorem dX9_ofSign_6 : decode cX9_ofSign 6 = .ok (.aload_n 0, 1) := by decide +kernel
theorem dX9_ofSign_7 : decode cX9_ofSign 7 = .ok (.iconst (-1), 1) := by decide +kernel
theorem dX9_ofSign_8 : decode cX9_ofSign 8 = .ok (.iconst (-1), 1) := by decide +kernel
theorem dX9_ofSign_9 : decode cX9_ofSign 9 = .ok (.invokevirtual 49, 3) := by decide +kernel
theorem dX9_ofSign_12 : decode cX9_ofSign 12 = .ok (.istore_n 2, 1) := by decide +kernel
theorem dX9_ofSign_13 : decode cX9_ofSign 13 = .ok (.aload_n 0, 1) := by decide +kernel
theorem dX9_ofSign_14 : decode cX9_ofSign 14 = .ok (.iconst 1, 1) := by decide +kernel
theorem dX9_ofSign_15 : decode cX9_ofSign 15 = .ok (.aload_n 0, 1) := by decide +kernel
theorem dX9_ofSign_16 : decode cX9_ofSign 16 = .ok (.iload_n 2, 1) := by decide +kernel
theorem dX9_ofSign_17 : decode cX9_ofSign 17 = .ok (.aload_n 0, 1) := by decide +kernel
theorem dX9_ofSign_18 : decode cX9_ofSign 18 = .ok (.iload_n 2, 1) := by decide +kernel
theorem dX9_ofSign_19 : decode cX9_ofSign 19 = .ok (.iload_n 2, 1) := by decide +kernel
theorem dX9_ofSign_20 : decode cX9_ofSign 20 = .ok (.invokevirtual 49, 3) := by decide +kernel
theorem dX9_ofSign_23 : decode cX9_ofSign 23 = .ok (.invokevirtual 49, 3) := by decide +kernel
theorem dX9_ofSign_26 : decode cX9_ofSign 26 = .ok (.invokevirtual 49, 3) := by decide +kernel
theorem dX9_ofSign_29 : decode cX9_ofSign 29 = .ok (.ireturn, 1) := by decide +kernel
theorem dX9_ofSign_30 : decode cX9_ofSign 30 = .ok (.aload_n 0, 1) := by decide +kernel
theorem dX9_ofSign_31 : decode cX9_ofSign 31 = .ok (.iconst 0, 1) := by decide +kernel
theorem dX9_ofSign_32 : decode cX9_ofSign 32 = .ok (.aload_n 0, 1) := by decide +kernel
theorem dX9_ofSign_33 : decode cX9_ofSign 33 = .ok (.iconst 0, 1) := by decide +kernel
theorem dX9_ofSign_34 : decode cX9_ofSign 34 = .ok (.iload_n 1, 1) := by decide +kernel
theorem dX9_ofSign_35 : decode cX9_ofSign 35 = .ok (.bipush 43, 2) := by decide +kernel
theorem dX9_ofSign_37 : decode cX9_ofSign 37 = .ok (.if_icmp .ne 7, 3) := by decide +kernel
theorem dX9_ofSign_40 : decode cX9_ofSign 40 = .ok (.iconst 0, 1) := by decide +kernel
theorem dX9_ofSign_41 : decode cX9_ofSign 41 = .ok (.goto 4, 3) := by decide +kernel
theorem dX9_ofSign_44 : decode cX9_ofSign 44 = .ok (.iconst 1, 1) := by decide +kernel
theorem dX9_ofSign_45 : decode cX9_ofSign 45 = .ok (.invokevirtual 49, 3) := by decide +kernel
theorem dX9_ofSign_48 : decode cX9_ofSign 48 = .ok (.invokevirtual 49, 3) := by decide +kernel
theorem dX9_ofSign_51 : decode cX9_ofSign 51 = .ok (.ireturn, 1) := by decide +kernel
theorem dX10_init_0 : decode cX10_init 0 = .ok (.aload_n 0, 1) := by decide +kernel
theorem dX10_init_1 : decode cX10_init 1 = .ok (.invokespecial 3, 3) := by decide +kernel
theorem dX10_init_4 : decode cX10_init 4 = .ok (.aload_n 0, 1) := by decide +kernel
theorem dX10_init_5 : decode cX10_init 5 = .ok (.new 9, 3) := by decide +kernel
theorem dX10_init_8 : decode cX10_init 8 = .ok (.dup, 1) := by decide +kernel
theorem dX10_init_9 : decode cX10_init 9 = .ok (.invokespecial 11, 3) := by decide +kernel
theorem dX10_init_12 : decode cX10_init 12 = .ok (.putfield 12, 3) := by decide +kernel
theorem dX10_init_15 : decode cX10_init 15 = .ok (.aload_n 0, 1) := by decide +kernel
theorem dX10_init_16 : decode cX10_init 16 = .ok (.new 9, 3) := by decide +kernel
theorem dX10_init_19 : decode cX10_init 19 = .ok (.dup, 1) := by decide +kernel
theorem dX10_init_20 : decode cX10_init 20 = .ok (.invokespecial 11, 3) := by decide +kernel
theorem dX10_init_23 : decode cX10_init 23 = .ok (.putfield 16, 3) := by decide +kernel
theorem dX10_init_26 : decode cX10_init 26 = .ok (.aload_n 0, 1) := by decide +kernel
theorem dX10_init_27 : decode cX10_init 27 = .ok (.new 19, 3) := by decide +kernel
theorem dX10_init_30 : decode cX10_init 30 = .ok (.dup, 1) := by decide +kernel
theorem dX10_init_31 : decode cX10_init 31 = .ok (.invokespecial 21, 3) := by decide +kernel
theorem dX10_init_34 : decode cX10_init 34 = .ok (.putfield 22, 3) := by decide +kernel
theorem dX10_init_37 : decode cX10_init 37 = .ok (.aload_n 0, 1) := by decide +kernel
theorem dX10_init_38 : decode cX10_init 38 = .ok (.new 26, 3) := by decide +kernel
theorem dX10_init_41 : decode cX10_init 41 = .ok (.dup, 1) := by decide +kernel
theorem dX10_init_42 : decode cX10_init 42 = .ok (.invokespecial 28, 3) := by decide +kernel
theorem dX10_init_45 : decode cX10_init 45 = .ok (.putfield 29, 3) := by decide +kernel
theorem dX10_init_48 : decode cX10_init 48 = .ok (.aload_n 0, 1) := by decide +kernel
theorem dX10_init_49 : decode cX10_init 49 = .ok (.new 33, 3) := by decide +kernel
theorem dX10_init_52 : decode cX10_init 52 = .ok (.dup, 1) := by decide +kernel
theorem dX10_init_53 : decode cX10_init 53 = .ok (.sipush 200, 3) := by decide +kernel
theorem dX10_init_56 : decode cX10_init 56 = .ok (.invokespecial 35, 3) := by decide +kernel
theorem dX10_init_59 : decode cX10_init 59 = .ok (.putfield 38, 3) := by decide +kernel
theorem dX10_init_62 : decode cX10_init 62 = .ok (.aload_n 0, 1) := by decide +kernel
theorem dX10_init_63 : decode cX10_init 63 = .ok (.new 33, 3) := by decide +kernel
theorem dX10_init_66 : decode cX10_init 66 = .ok (.dup, 1) := by decide +kernel
theorem dX10_init_67 : decode cX10_init 67 = .ok (.sipush 200, 3) := by decide +kernel
theorem dX10_init_70 : decode cX10_init 70 = .ok (.invokespecial 35, 3) := by decide +kernel
theorem dX10_init_73 : decode cX10_init 73 = .ok (.putfield 42, 3) := by decide +kernel
theorem dX10_init_76 : decode cX10_init 76 = .ok (.aload_n 0, 1) := by decide +kernel
theorem dX10_init_77 : decode cX10_init 77 = .ok (.new 45, 3) := by decide +kernel
theorem dX10_init_80 : decode cX10_init 80 = .ok (.dup, 1) := by decide +kernel
theorem dX10_init_81 : decode cX10_init 81 = .ok (.invokespecial 47, 3) := by decide +kernel
theorem dX10_init_84 : decode cX10_init 84 = .ok (.putfield 48, 3) := by decide +kernel
theorem dX10_init_87 : decode cX10_init 87 = .ok (.aload_n 0, 1) := by decide +kernel
theorem dX10_init_88 : decode cX10_init 88 = .ok (.new 45, 3) := by decide +kernel
theorem dX10_init_91 : decode cX10_init 91 = .ok (.dup, 1) := by decide +kernel
theorem dX10_init_92 : decode cX10_init 92 = .ok (.invokespecial 47, 3) := by decide +kernel
theorem dX10_init_95 : decode cX10_init 95 = .ok (.putfield 52, 3) := by decide +kernel
theorem dX10_init_98 : decode cX10_init 98 = .ok (.aload_n 0, 1) := by decide +kernel
theorem dX10_init_99 : decode cX10_init 99 = .ok (.new 45, 3) := by decide +kernel
theorem dX10_init_102 : decode cX10_init 102 = .ok (.dup, 1) := by decide +kernel
theorem dX10_init_103 : decode cX10_init 103 = .ok (.invokespecial 47, 3) := by decide +kernel
theorem dX10_init_106 : decode cX10_init 106 = .ok (.putfield 55, 3) := by decide +kernel
theorem dX10_init_109 : decode cX10_init 109 = .ok (.aload_n 0, 1) := by decide +kernel
theorem dX10_init_110 : decode cX10_init 110 = .ok (.new 58, 3) := by decide +kernel
theorem dX10_init_113 : decode cX10_init 113 = .ok (.dup, 1) := by decide +kernel
theorem dX10_init_114 : decode cX10_init 114 = .ok (.invokespecial 60, 3) := by decide +kernel
theorem dX10_init_117 : decode cX10_init 117 = .ok (.putfield 61, 3) := by decide +kernel
theorem dX10_init_120 : decode cX10_init 120 = .ok (.aload_n 0, 1) := by decide +kernel
theorem dX10_init_121 : decode cX10_init 121 = .ok (.iconst (-1), 1) := by decide +kernel
theorem dX10_init_122 : decode cX10_init 122 = .ok (.putfield 65, 3) := by decide +kernel
theorem dX10_init_125 : decode cX10_init 125 = .ok (.return_, 1) := by decide +kernel
theorem dX10_lesson_0 : decode cX10_lesson 0 = .ok (.aload_n 0, 1) := by decide +kernel
theorem dX10_lesson_1 : decode cX10_lesson 1 = .ok (.aload_n 0, 1) := by decide +kernel
theorem dX10_lesson_2 : decode cX10_lesson 2 = .ok (.getfield 22, 3) := by decide +kernel
theorem dX10_lesson_5 : decode cX10_lesson 5 = .ok (.aload_n 0, 1) := by decide +kernel
theorem dX10_lesson_6 : decode cX10_lesson 6 = .ok (.getfield 12, 3) := by decide +kernel
theorem dX10_lesson_9 : decode cX10_lesson 9 = .ok (.invokevirtual 69, 3) := by decide +kernel
theorem dX10_lesson_12 : decode cX10_lesson 12 = .ok (.putfield 65, 3) := by decide +kernel
theorem dX10_lesson_15 : decode cX10_lesson 15 = .ok (.aload_n 0, 1) := by decide +kernel
theorem dX10_lesson_16 : decode cX10_lesson 16 = .ok (.getfield 65, 3) := by decide +kernel
theorem dX10_lesson_19 : decode cX10_lesson 19 = .ok (.ifCond .lt 21, 3) := by decide +kernel
theorem dX10_lesson_22 : decode cX10_lesson 22 = .ok (.aload_n 0, 1) := by decide +kernel
theorem dX10_lesson_23 : decode cX10_lesson 23 = .ok (.getfield 12, 3) := by decide +kernel
theorem dX10_lesson_26 : decode cX10_lesson 26 = .ok (.iconst 0, 1) := by decide +kernel
theorem dX10_lesson_27 : decode cX10_lesson 27 = .ok (.invokevirtual 73, 3) := by decide +kernel
theorem dX10_lesson_30 : decode cX10_lesson 30 = .ok (.new 76, 3) := by decide +kernel
theorem dX10_lesson_33 : decode cX10_lesson 33 = .ok (.dup, 1) := by decide +kernel
theorem dX10_lesson_34 : decode cX10_lesson 34 = .ok (.ldc 78, 2) := by decide +kernel
theorem dX10_lesson_36 : decode cX10_lesson 36 = .ok (.invokespecial 80, 3) := by decide +kernel
theorem dX10_lesson_39 : decode cX10_lesson 39 = .ok (.athrow, 1) := by decide +kernel
theorem dX10_lesson_40 : decode cX10_lesson 40 = .ok (.aload_n 0, 1) := by decide +kernel
theorem dX10_lesson_41 : decode cX10_lesson 41 = .ok (.getfield 48, 3) := by decide +kernel
theorem dX10_lesson_44 : decode cX10_lesson 44 = .ok (.getfield 83, 3) := by decide +kernel
theorem dX10_lesson_47 : decode cX10_lesson 47 = .ok (.bipush 6, 2) := by decide +kernel
theorem dX10_lesson_49 : decode cX10_lesson 49 = .ok (.if_icmp .lt 29, 3) := by decide +kernel
theorem dX10_lesson_52 : decode cX10_lesson 52 = .ok (.aload_n 0, 1) := by decide +kernel
theorem dX10_lesson_53 : decode cX10_lesson 53 = .ok (.getfield 12, 3) := by decide +kernel
theorem dX10_lesson_56 : decode cX10_lesson 56 = .ok (.iconst 0, 1) := by decide +kernel
theorem dX10_lesson_57 : decode cX10_lesson 57 = .ok (.invokevirtual 73, 3) := by decide +kernel
theorem dX10_lesson_60 : decode cX10_lesson 60 = .ok (.aload_n 0, 1) := by decide +kernel
theorem dX10_lesson_61 : decode cX10_lesson 61 = .ok (.iconst 1, 1) := by decide +kernel
theorem dX10_lesson_62 : decode cX10_lesson 62 = .ok (.bipush 6, 2) := by decide +kernel
theorem dX10_lesson_64 : decode cX10_lesson 64 = .ok (.invokevirtual 86, 3) := by decide +kernel
theorem dX10_lesson_67 : decode cX10_lesson 67 = .ok (.pop, 1) := by decide +kernel
theorem dX10_lesson_68 : decode cX10_lesson 68 = .ok (.new 90, 3) := by decide +kernel
theorem dX10_lesson_71 : decode cX10_lesson 71 = .ok (.dup, 1) := by decide +kernel
theorem dX10_lesson_72 : decode cX10_lesson 72 = .ok (.ldc 92, 2) := by decide +kernel
theorem dX10_lesson_74 : decode cX10_lesson 74 = .ok (.invokespecial 94, 3) := by decide +kernel
theorem dX10_lesson_77 : decode cX10_lesson 77 = .ok (.athrow, 1) := by decide +kernel
theorem dX10_lesson_78 : decode cX10_lesson 78 = .ok (.aload_n 0, 1) := by decide +kernel
theorem dX10_lesson_79 : decode cX10_lesson 79 = .ok (.getfield 52, 3) := by decide +kernel
theorem dX10_lesson_82 : decode cX10_lesson 82 = .ok (.aload_n 0, 1) := by decide +kernel
theorem dX10_lesson_83 : decode cX10_lesson 83 = .ok (.getfield 48, 3) := by decide +kernel
theorem dX10_lesson_86 : decode cX10_lesson 86 = .ok (.invokevirtual 95, 3) := by decide +kernel
theorem dX10_lesson_89 : decode cX10_lesson 89 = .ok (.aload_n 0, 1) := by decide +kernel
theorem dX10_lesson_90 : decode cX10_lesson 90 = .ok (.getfield 48, 3) := by decide +kernel
theorem dX10_lesson_93 : decode cX10_lesson 93 = .ok (.aload_n 0, 1) := by decide +kernel
theorem dX10_lesson_94 : decode cX10_lesson 94 = .ok (.getfield 22, 3) := by decide +kernel
theorem dX10_lesson_97 : decode cX10_lesson 97 = .ok (.aload_n 0, 1) := by decide +kernel
theorem dX10_lesson_98 : decode cX10_lesson 98 = .ok (.getfield 12, 3) := by decide +kernel
theorem dX10_lesson_101 : decode cX10_lesson 101 = .ok (.invokevirtual 99, 3) := by decide +kernel
theorem dX10_lesson_104 : decode cX10_lesson 104 = .ok (.invokevirtual 103, 3) := by decide +kernel
theorem dX10_lesson_107 : decode cX10_lesson 107 = .ok (.istore_n 1, 1) := by decide +kernel
theorem dX10_lesson_108 : decode cX10_lesson 108 = .ok (.aload_n 0, 1) := by decide +kernel
theorem dX10_lesson_109 : decode cX10_lesson 109 = .ok (.getfield 12, 3) := by decide +kernel
theorem dX10_lesson_112 : decode cX10_lesson 112 = .ok (.iconst 0, 1) := by decide +kernel
theorem dX10_lesson_113 : decode cX10_lesson 113 = .ok (.invokevirtual 73, 3) := by decide +kernel
theorem dX10_lesson_116 : decode cX10_lesson 116 = .ok (.aload_n 0, 1) := by decide +kernel
theorem dX10_lesson_117 : decode cX10_lesson 117 = .ok (.getfield 61, 3) := by decide +kernel
theorem dX10_lesson_120 : decode cX10_lesson 120 = .ok (.aload_n 0, 1) := by decide +kernel
theorem dX10_lesson_121 : decode cX10_lesson 121 = .ok (.getfield 52, 3) := by decide +kernel
theorem dX10_lesson_124 : decode cX10_lesson 124 = .ok (.invokevirtual 107, 3) := by decide +kernel
theorem dX10_lesson_127 : decode cX10_lesson 127 = .ok (.iload_n 1, 1) := by decide +kernel
theorem dX10_lesson_128 : decode cX10_lesson 128 = .ok (.ireturn, 1) := by decide +kernel
theorem dX10_drop_0 : decode cX10_drop 0 = .ok (.aload_n 0, 1) := by decide +kernel
theorem dX10_drop_1 : decode cX10_drop 1 = .ok (.getfield 52, 3) := by decide +kernel
theorem dX10_drop_4 : decode cX10_drop 4 = .ok (.aload_n 0, 1) := by decide +kernel
theorem dX10_drop_5 : decode cX10_drop 5 = .ok (.getfield 48, 3) := by decide +kernel
theorem dX10_drop_8 : decode cX10_drop 8 = .ok (.invokevirtual 95, 3) := by decide +kernel
theorem dX10_drop_11 : decode cX10_drop 11 = .ok (.aload_n 0, 1) := by decide +kernel
theorem dX10_drop_12 : decode cX10_drop 12 = .ok (.iload_n 1, 1) := by decide +kernel
theorem dX10_drop_13 : decode cX10_drop 13 = .ok (.invokevirtual 110, 3) := by decide +kernel
theorem dX10_drop_16 : decode cX10_drop 16 = .ok (.istore_n 2, 1) := by decide +kernel
theorem dX10_drop_17 : decode cX10_drop 17 = .ok (.iload_n 2, 1) := by decide +kernel
theorem dX10_drop_18 : decode cX10_drop 18 = .ok (.ifCond .ge 13, 3) := by decide +kernel
theorem dX10_drop_21 : decode cX10_drop 21 = .ok (.new 90, 3) := by decide +kernel
theorem dX10_drop_24 : decode cX10_drop 24 = .ok (.dup, 1) := by decide +kernel
theorem dX10_drop_25 : decode cX10_drop 25 = .ok (.ldc 114, 2) := by decide +kernel
theorem dX10_drop_27 : decode cX10_drop 27 = .ok (.invokespecial 94, 3) := by decide +kernel
theorem dX10_drop_30 : decode cX10_drop 30 = .ok (.athrow, 1) := by decide +kernel
theorem dX10_drop_31 : decode cX10_drop 31 = .ok (.aload_n 0, 1) := by decide +kernel
theorem dX10_drop_32 : decode cX10_drop 32 = .ok (.getfield 61, 3) := by decide +kernel
theorem dX10_drop_35 : decode cX10_drop 35 = .ok (.aload_n 0, 1) := by decide +kernel
theorem dX10_drop_36 : decode cX10_drop 36 = .ok (.getfield 52, 3) := by decide +kernel
theorem dX10_drop_39 : decode cX10_drop 39 = .ok (.invokevirtual 107, 3) := by decide +kernel
theorem dX10_drop_42 : decode cX10_drop 42 = .ok (.iload_n 2, 1) := by decide +kernel
theorem dX10_drop_43 : decode cX10_drop 43 = .ok (.ireturn, 1) := by decide +kernel
theorem dX10_keep_0 : decode cX10_keep 0 = .ok (.aload_n 0, 1) := by decide +kernel
theorem dX10_keep_1 : decode cX10_keep 1 = .ok (.getfield 52, 3) := by decide +kernel
theorem dX10_keep_4 : decode cX10_keep 4 = .ok (.aload_n 0, 1) := by decide +kernel
theorem dX10_keep_5 : decode cX10_keep 5 = .ok (.getfield 48, 3) := by decide +kernel
theorem dX10_keep_8 : decode cX10_keep 8 = .ok (.invokevirtual 95, 3) := by decide +kernel
theorem dX10_keep_11 : decode cX10_keep 11 = .ok (.aload_n 0, 1) := by decide +kernel
theorem dX10_keep_12 : decode cX10_keep 12 = .ok (.iload_n 1, 1) := by decide +kernel
theorem dX10_keep_13 : decode cX10_keep 13 = .ok (.iload_n 2, 1) := by decide +kernel
theorem dX10_keep_14 : decode cX10_keep 14 = .ok (.invokevirtual 116, 3) := by decide +kernel
theorem dX10_keep_17 : decode cX10_keep 17 = .ok (.istore_n 3, 1) := by decide +kernel
theorem dX10_keep_18 : decode cX10_keep 18 = .ok (.iload_n 3, 1) := by decide +kernel
theorem dX10_keep_19 : decode cX10_keep 19 = .ok (.ifCond .ge 13, 3) := by decide +kernel
theorem dX10_keep_22 : decode cX10_keep 22 = .ok (.new 90, 3) := by decide +kernel
theorem dX10_keep_25 : decode cX10_keep 25 = .ok (.dup, 1) := by decide +kernel
theorem dX10_keep_26 : decode cX10_keep 26 = .ok (.ldc 119, 2) := by decide +kernel
theorem dX10_keep_28 : decode cX10_keep 28 = .ok (.invokespecial 94, 3) := by decide +kernel
theorem dX10_keep_31 : decode cX10_keep 31 = .ok (.athrow, 1) := by decide +kernel
theorem dX10_keep_32 : decode cX10_keep 32 = .ok (.aload_n 0, 1) := by decide +kernel
theorem dX10_keep_33 : decode cX10_keep 33 = .ok (.getfield 61, 3) := by decide +kernel
theorem dX10_keep_36 : decode cX10_keep 36 = .ok (.aload_n 0, 1) := by decide +kernel
theorem dX10_keep_37 : decode cX10_keep 37 = .ok (.getfield 52, 3) := by decide +kernel
theorem dX10_keep_40 : decode cX10_keep 40 = .ok (.invokevirtual 107, 3) := by decide +kernel
theorem dX10_keep_43 : decode cX10_keep 43 = .ok (.iload_n 3, 1) := by decide +kernel
theorem dX10_keep_44 : decode cX10_keep 44 = .ok (.ireturn, 1) := by decide +kernel
theorem dX10_unkeep_0 : decode cX10_unkeep 0 = .ok (.aload_n 0, 1) := by decide +kernel
theorem dX10_unkeep_1 : decode cX10_unkeep 1 = .ok (.getfield 52, 3) := by decide +kernel
theorem dX10_unkeep_4 : decode cX10_unkeep 4 = .ok (.aload_n 0, 1) := by decide +kernel
theorem dX10_unkeep_5 : decode cX10_unkeep 5 = .ok (.getfield 48, 3) := by decide +kernel
theorem dX10_unkeep_8 : decode cX10_unkeep 8 = .ok (.invokevirtual 95, 3) := by decide +kernel
theorem dX10_unkeep_11 : decode cX10_unkeep 11 = .ok (.aload_n 0, 1) := by decide +kernel
theorem dX10_unkeep_12 : decode cX10_unkeep 12 = .ok (.iload_n 1, 1) := by decide +kernel
theorem dX10_unkeep_13 : decode cX10_unkeep 13 = .ok (.invokevirtual 121, 3) := by decide +kernel
theorem dX10_unkeep_16 : decode cX10_unkeep 16 = .ok (.istore_n 2, 1) := by decide +kernel
theorem dX10_unkeep_17 : decode cX10_unkeep 17 = .ok (.iload_n 2, 1) := by decide +kernel
theorem dX10_unkeep_18 : decode cX10_unkeep 18 = .ok (.ifCond .ge 13, 3) := by decide +kernel
theorem dX10_unkeep_21 : decode cX10_unkeep 21 = .ok (.new 90, 3) := by decide +kernel
theorem dX10_unkeep_24 : decode cX10_unkeep 24 = .ok (.dup, 1) := by decide +kernel
theorem dX10_unkeep_25 : decode cX10_unkeep 25 = .ok (.ldc 124, 2) := by decide +kernel
theorem dX10_unkeep_27 : decode cX10_unkeep 27 = .ok (.invokespecial 94, 3) := by decide +kernel
theorem dX10_unkeep_30 : decode cX10_unkeep 30 = .ok (.athrow, 1) := by decide +kernel
theorem dX10_unkeep_31 : decode cX10_unkeep 31 = .ok (.aload_n 0, 1) := by decide +kernel
theorem dX10_unkeep_32 : decode cX10_unkeep 32 = .ok (.getfield 61, 3) := by decide +kernel
theorem dX10_unkeep_35 : decode cX10_unkeep 35 = .ok (.aload_n 0, 1) := by decide +kernel
theorem dX10_unkeep_36 : decode cX10_unkeep 36 = .ok (.getfield 52, 3) := by decide +kernel
theorem dX10_unkeep_39 : decode cX10_unkeep 39 = .ok (.invokevirtual 107, 3) := by decide +kernel
theorem dX10_unkeep_42 : decode cX10_unkeep 42 = .ok (.iload_n 2, 1) := by decide +kernel
theorem dX10_unkeep_43 : decode cX10_unkeep 43 = .ok (.ireturn, 1) := by decide +kernel
theorem dX10_nodes_0 : decode cX10_nodes 0 = .ok (.aload_n 0, 1) := by decide +kernel
theorem dX10_nodes_1 : decode cX10_nodes 1 = .ok (.iload_n 1, 1) := by decide +kernel
theorem dX10_nodes_2 : decode cX10_nodes 2 = .ok (.invokevirtual 126, 3) := by decide +kernel
theorem dX10_nodes_5 : decode cX10_nodes 5 = .ok (.getfield 130, 3) := by decide +kernel
theorem dX10_nodes_8 : decode cX10_nodes 8 = .ok (.ireturn, 1) := by decide +kernel
theorem dX10_nodeOf_0 : decode cX10_nodeOf 0 = .ok (.aload_n 0, 1) := by decide +kernel
theorem dX10_nodeOf_1 : decode cX10_nodeOf 1 = .ok (.iload_n 1, 1) := by decide +kernel
theorem dX10_nodeOf_2 : decode cX10_nodeOf 2 = .ok (.iload_n 2, 1) := by decide +kernel
theorem dX10_nodeOf_3 : decode cX10_nodeOf 3 = .ok (.invokevirtual 133, 3) := by decide +kernel
theorem dX10_nodeOf_6 : decode cX10_nodeOf 6 = .ok (.astore 4, 2) := by decide +kernel
theorem dX10_nodeOf_8 : decode cX10_nodeOf 8 = .ok (.iload_n 3, 1) := by decide +kernel
theorem dX10_nodeOf_9 : decode cX10_nodeOf 9 = .ok (.ifCond .lt 8, 3) := by decide +kernel
theorem dX10_nodeOf_12 : decode cX10_nodeOf 12 = .ok (.iload_n 3, 1) := by decide +kernel
theorem dX10_nodeOf_13 : decode cX10_nodeOf 13 = .ok (.iconst 5, 1) := by decide +kernel
theorem dX10_nodeOf_14 : decode cX10_nodeOf 14 = .ok (.if_icmp .le 13, 3) := by decide +kernel
theorem dX10_nodeOf_17 : decode cX10_nodeOf 17 = .ok (.new 76, 3) := by decide +kernel
theorem dX10_nodeOf_20 : decode cX10_nodeOf 20 = .ok (.dup, 1) := by decide +kernel
theorem dX10_nodeOf_21 : decode cX10_nodeOf 21 = .ok (.ldc 137, 2) := by decide +kernel
theorem dX10_nodeOf_23 : decode cX10_nodeOf 23 = .ok (.invokespecial 80, 3) := by decide +kernel
theorem dX10_nodeOf_26 : decode cX10_nodeOf 26 = .ok (.athrow, 1) := by decide +kernel
theorem dX10_nodeOf_27 : decode cX10_nodeOf 27 = .ok (.aload 4, 2) := by decide +kernel
theorem dX10_nodeOf_29 : decode cX10_nodeOf 29 = .ok (.iload_n 3, 1) := by decide +kernel
theorem dX10_nodeOf_30 : decode cX10_nodeOf 30 = .ok (.iload_n 2, 1) := by decide +kernel
theorem dX10_nodeOf_31 : decode cX10_nodeOf 31 = .ok (.invokevirtual 139, 3) := by decide +kernel
theorem dX10_nodeOf_34 : decode cX10_nodeOf 34 = .ok (.ireturn, 1) := by decide +kernel
theorem dX10_signOf_0 : decode cX10_signOf 0 = .ok (.aload_n 0, 1) := by decide +kernel
theorem dX10_signOf_1 : decode cX10_signOf 1 = .ok (.iload_n 1, 1) := by decide +kernel
theorem dX10_signOf_2 : decode cX10_signOf 2 = .ok (.iload_n 2, 1) := by decide +kernel
theorem dX10_signOf_3 : decode cX10_signOf 3 = .ok (.invokevirtual 133, 3) := by decide +kernel
theorem dX10_signOf_6 : decode cX10_signOf 6 = .ok (.astore_n 3, 1) := by decide +kernel
theorem dX10_signOf_7 : decode cX10_signOf 7 = .ok (.aload_n 3, 1) := by decide +kernel
theorem dX10_signOf_8 : decode cX10_signOf 8 = .ok (.iconst 0, 1) := by decide +kernel
theorem dX10_signOf_9 : decode cX10_signOf 9 = .ok (.iload_n 2, 1) := by decide +kernel
theorem dX10_signOf_10 : decode cX10_signOf 10 = .ok (.invokevirtual 139, 3) := by decide +kernel
theorem dX10_signOf_13 : decode cX10_signOf 13 = .ok (.bipush 6, 2) := by decide +kernel
theorem dX10_signOf_15 : decode cX10_signOf 15 = .ok (.if_icmp .ne 13, 3) := by decide +kernel
theorem dX10_signOf_18 : decode cX10_signOf 18 = .ok (.new 142, 3) := by decide +kernel
theorem dX10_signOf_21 : decode cX10_signOf 21 = .ok (.dup, 1) := by decide +kernel
theorem dX10_signOf_22 : decode cX10_signOf 22 = .ok (.ldc 144, 2) := by decide +kernel
theorem dX10_signOf_24 : decode cX10_signOf 24 = .ok (.invokespecial 146, 3) := by decide +kernel
theorem dX10_signOf_27 : decode cX10_signOf 27 = .ok (.athrow, 1) := by decide +kernel
theorem dX10_signOf_28 : decode cX10_signOf 28 = .ok (.aload_n 3, 1) := by decide +kernel
theorem dX10_signOf_29 : decode cX10_signOf 29 = .ok (.bipush 6, 2) := by decide +kernel
theorem dX10_signOf_31 : decode cX10_signOf 31 = .ok (.iload_n 2, 1) := by decide +kernel
theorem dX10_signOf_32 : decode cX10_signOf 32 = .ok (.invokevirtual 139, 3) := by decide +kernel
theorem dX10_signOf_35 : decode cX10_signOf 35 = .ok (.i2c, 1) := by decide +kernel
theorem dX10_signOf_36 : decode cX10_signOf 36 = .ok (.ireturn, 1) := by decide +kernel
theorem dX10_binder_0 : decode cX10_binder 0 = .ok (.aload_n 0, 1) := by decide +kernel
theorem dX10_binder_1 : decode cX10_binder 1 = .ok (.iload_n 1, 1) := by decide +kernel
theorem dX10_binder_2 : decode cX10_binder 2 = .ok (.iload_n 2, 1) := by decide +kernel
theorem dX10_binder_3 : decode cX10_binder 3 = .ok (.invokevirtual 133, 3) := by decide +kernel
theorem dX10_binder_6 : decode cX10_binder 6 = .ok (.astore_n 3, 1) := by decide +kernel
theorem dX10_binder_7 : decode cX10_binder 7 = .ok (.aload_n 3, 1) := by decide +kernel
theorem dX10_binder_8 : decode cX10_binder 8 = .ok (.iconst 0, 1) := by decide +kernel
theorem dX10_binder_9 : decode cX10_binder 9 = .ok (.iload_n 2, 1) := by decide +kernel
theorem dX10_binder_10 : decode cX10_binder 10 = .ok (.invokevirtual 139, 3) := by decide +kernel
theorem dX10_binder_13 : decode cX10_binder 13 = .ok (.ifCond .ne 13, 3) := by decide +kernel
theorem dX10_binder_16 : decode cX10_binder 16 = .ok (.aload_n 3, 1) := by decide +kernel
theorem dX10_binder_17 : decode cX10_binder 17 = .ok (.bipush 7, 2) := by decide +kernel
theorem dX10_binder_19 : decode cX10_binder 19 = .ok (.iload_n 2, 1) := by decide +kernel
theorem dX10_binder_20 : decode cX10_binder 20 = .ok (.invokevirtual 139, 3) := by decide +kernel
theorem dX10_binder_23 : decode cX10_binder 23 = .ok (.ifCond .ge 13, 3) := by decide +kernel
theorem dX10_binder_26 : decode cX10_binder 26 = .ok (.new 142, 3) := by decide +kernel
theorem dX10_binder_29 : decode cX10_binder 29 = .ok (.dup, 1) := by decide +kernel
theorem dX10_binder_30 : decode cX10_binder 30 = .ok (.ldc 147, 2) := by decide +kernel
theorem dX10_binder_32 : decode cX10_binder 32 = .ok (.invokespecial 146, 3) := by decide +kernel
theorem dX10_binder_35 : decode cX10_binder 35 = .ok (.athrow, 1) := by decide +kernel
theorem dX10_binder_36 : decode cX10_binder 36 = .ok (.aload_n 3, 1) := by decide +kernel
theorem dX10_binder_37 : decode cX10_binder 37 = .ok (.bipush 7, 2) := by decide +kernel
theorem dX10_binder_39 : decode cX10_binder 39 = .ok (.iload_n 2, 1) := by decide +kernel
theorem dX10_binder_40 : decode cX10_binder 40 = .ok (.invokevirtual 139, 3) := by decide +kernel
theorem dX10_binder_43 : decode cX10_binder 43 = .ok (.ireturn, 1) := by decide +kernel
theorem dX10_uses_0 : decode cX10_uses 0 = .ok (.aload_n 0, 1) := by decide +kernel
theorem dX10_uses_1 : decode cX10_uses 1 = .ok (.iload_n 1, 1) := by decide +kernel
theorem dX10_uses_2 : decode cX10_uses 2 = .ok (.iload_n 2, 1) := by decide +kernel
theorem dX10_uses_3 : decode cX10_uses 3 = .ok (.invokevirtual 133, 3) := by decide +kernel
theorem dX10_uses_6 : decode cX10_uses 6 = .ok (.astore_n 3, 1) := by decide +kernel
theorem dX10_uses_7 : decode cX10_uses 7 = .ok (.aload_n 3, 1) := by decide +kernel
theorem dX10_uses_8 : decode cX10_uses 8 = .ok (.iconst 0, 1) := by decide +kernel
theorem dX10_uses_9 : decode cX10_uses 9 = .ok (.iload_n 2, 1) := by decide +kernel
theorem dX10_uses_10 : decode cX10_uses 10 = .ok (.invokevirtual 139, 3) := by decide +kernel
theorem dX10_uses_13 : decode cX10_uses 13 = .ok (.istore 4, 2) := by decide +kernel
theorem dX10_uses_15 : decode cX10_uses 15 = .ok (.iload 4, 2) := by decide +kernel
theorem dX10_uses_17 : decode cX10_uses 17 = .ok (.iconst 4, 1) := by decide +kernel
theorem dX10_uses_18 : decode cX10_uses 18 = .ok (.if_icmp .eq 19, 3) := by decide +kernel
theorem dX10_uses_21 : decode cX10_uses 21 = .ok (.iload 4, 2) := by decide +kernel
theorem dX10_uses_23 : decode cX10_uses 23 = .ok (.iconst 5, 1) := by decide +kernel
theorem dX10_uses_24 : decode cX10_uses 24 = .ok (.if_icmp .eq 13, 3) := by decide +kernel
theorem dX10_uses_27 : decode cX10_uses 27 = .ok (.new 76, 3) := by decide +kernel
theorem dX10_uses_30 : decode cX10_uses 30 = .ok (.dup, 1) := by decide +kernel
theorem dX10_uses_31 : decode cX10_uses 31 = .ok (.ldc 149, 2) := by decide +kernel
theorem dX10_uses_33 : decode cX10_uses 33 = .ok (.invokespecial 80, 3) := by decide +kernel
theorem dX10_uses_36 : decode cX10_uses 36 = .ok (.athrow, 1) := by decide +kernel
theorem dX10_uses_37 : decode cX10_uses 37 = .ok (.aload_n 3, 1) := by decide +kernel
theorem dX10_uses_38 : decode cX10_uses 38 = .ok (.iload_n 2, 1) := by decide +kernel
theorem dX10_uses_39 : decode cX10_uses 39 = .ok (.invokevirtual 151, 3) := by decide +kernel
theorem dX10_uses_42 : decode cX10_uses 42 = .ok (.ireturn, 1) := by decide +kernel
theorem dX10_unbound_0 : decode cX10_unbound 0 = .ok (.aload_n 0, 1) := by decide +kernel
theorem dX10_unbound_1 : decode cX10_unbound 1 = .ok (.iload_n 1, 1) := by decide +kernel
theorem dX10_unbound_2 : decode cX10_unbound 2 = .ok (.invokevirtual 126, 3) := by decide +kernel
theorem dX10_unbound_5 : decode cX10_unbound 5 = .ok (.iconst (-1), 1) := by decide +kernel
theorem dX10_unbound_6 : decode cX10_unbound 6 = .ok (.invokevirtual 151, 3) := by decide +kernel
theorem dX10_unbound_9 : decode cX10_unbound 9 = .ok (.ireturn, 1) := by decide +kernel
theorem dX10_isTyped_0 : decode cX10_isTyped 0 = .ok (.aload_n 0, 1) := by decide +kernel
theorem dX10_isTyped_1 : decode cX10_isTyped 1 = .ok (.getfield 29, 3) := by decide +kernel
theorem dX10_isTyped_4 : decode cX10_isTyped 4 = .ok (.aload_n 0, 1) := by decide +kernel
theorem dX10_isTyped_5 : decode cX10_isTyped 5 = .ok (.iload_n 1, 1) := by decide +kernel
theorem dX10_isTyped_6 : decode cX10_isTyped 6 = .ok (.invokevirtual 126, 3) := by decide +kernel
theorem dX10_isTyped_9 : decode cX10_isTyped 9 = .ok (.aload_n 0, 1) := by decide +kernel
theorem dX10_isTyped_10 : decode cX10_isTyped 10 = .ok (.getfield 48, 3) := by decide +kernel
theorem dX10_isTyped_13 : decode cX10_isTyped 13 = .ok (.iconst 0, 1) := by decide +kernel
theorem dX10_isTyped_14 : decode cX10_isTyped 14 = .ok (.invokevirtual 154, 3) := by decide +kernel
theorem dX10_isTyped_17 : decode cX10_isTyped 17 = .ok (.ireturn, 1) := by decide +kernel
theorem dX10_failure_0 : decode cX10_failure 0 = .ok (.aload_n 0, 1) := by decide +kernel
theorem dX10_failure_1 : decode cX10_failure 1 = .ok (.iload_n 1, 1) := by decide +kernel
theorem dX10_failure_2 : decode cX10_failure 2 = .ok (.invokevirtual 126, 3) := by decide +kernel
theorem dX10_failure_5 : decode cX10_failure 5 = .ok (.astore_n 3, 1) := by decide +kernel
theorem dX10_failure_6 : decode cX10_failure 6 = .ok (.iload_n 2, 1) := by decide +kernel
theorem dX10_failure_7 : decode cX10_failure 7 = .ok (.ifCond .lt 8, 3) := by decide +kernel
theorem dX10_failure_10 : decode cX10_failure 10 = .ok (.iload_n 2, 1) := by decide +kernel
theorem dX10_failure_11 : decode cX10_failure 11 = .ok (.iconst 3, 1) := by decide +kernel
theorem dX10_failure_12 : decode cX10_failure 12 = .ok (.if_icmp .le 13, 3) := by decide +kernel
theorem dX10_failure_15 : decode cX10_failure 15 = .ok (.new 76, 3) := by decide +kernel
theorem dX10_failure_18 : decode cX10_failure 18 = .ok (.dup, 1) := by decide +kernel
theorem dX10_failure_19 : decode cX10_failure 19 = .ok (.ldc 158, 2) := by decide +kernel
theorem dX10_failure_21 : decode cX10_failure 21 = .ok (.invokespecial 80, 3) := by decide +kernel
theorem dX10_failure_24 : decode cX10_failure 24 = .ok (.athrow, 1) := by decide +kernel
theorem dX10_failure_25 : decode cX10_failure 25 = .ok (.aload_n 0, 1) := by decide +kernel
theorem dX10_failure_26 : decode cX10_failure 26 = .ok (.getfield 29, 3) := by decide +kernel
theorem dX10_failure_29 : decode cX10_failure 29 = .ok (.aload_n 3, 1) := by decide +kernel
theorem dX10_failure_30 : decode cX10_failure 30 = .ok (.aload_n 0, 1) := by decide +kernel
theorem dX10_failure_31 : decode cX10_failure 31 = .ok (.getfield 48, 3) := by decide +kernel
theorem dX10_failure_34 : decode cX10_failure 34 = .ok (.iconst 0, 1) := by decide +kernel
theorem dX10_failure_35 : decode cX10_failure 35 = .ok (.invokevirtual 154, 3) := by decide +kernel
theorem dX10_failure_38 : decode cX10_failure 38 = .ok (.ifCond .eq 13, 3) := by decide +kernel
theorem dX10_failure_41 : decode cX10_failure 41 = .ok (.new 142, 3) := by decide +kernel
theorem dX10_failure_44 : decode cX10_failure 44 = .ok (.dup, 1) := by decide +kernel
theorem dX10_failure_45 : decode cX10_failure 45 = .ok (.ldc 160, 2) := by decide +kernel
theorem dX10_failure_47 : decode cX10_failure 47 = .ok (.invokespecial 146, 3) := by decide +kernel
theorem dX10_failure_50 : decode cX10_failure 50 = .ok (.athrow, 1) := by decide +kernel
theorem dX10_failure_51 : decode cX10_failure 51 = .ok (.iload_n 2, 1) := by decide +kernel
theorem dX10_failure_52 : decode cX10_failure 52 = .ok (.tableswitch 52 0 2 #[28, 36, 44], 28) := by decide +kernel
theorem dX10_failure_80 : decode cX10_failure 80 = .ok (.aload_n 0, 1) := by decide +kernel
theorem dX10_failure_81 : decode cX10_failure 81 = .ok (.getfield 29, 3) := by decide +kernel
theorem dX10_failure_84 : decode cX10_failure 84 = .ok (.getfield 162, 3) := by decide +kernel
theorem dX10_failure_87 : decode cX10_failure 87 = .ok (.ireturn, 1) := by decide +kernel
theorem dX10_failure_88 : decode cX10_failure 88 = .ok (.aload_n 0, 1) := by decide +kernel
theorem dX10_failure_89 : decode cX10_failure 89 = .ok (.getfield 29, 3) := by decide +kernel
theorem dX10_failure_92 : decode cX10_failure 92 = .ok (.getfield 165, 3) := by decide +kernel
theorem dX10_failure_95 : decode cX10_failure 95 = .ok (.ireturn, 1) := by decide +kernel
theorem dX10_failure_96 : decode cX10_failure 96 = .ok (.aload_n 0, 1) := by decide +kernel
theorem dX10_failure_97 : decode cX10_failure 97 = .ok (.getfield 29, 3) := by decide +kernel
theorem dX10_failure_100 : decode cX10_failure 100 = .ok (.getfield 168, 3) := by decide +kernel
theorem dX10_failure_103 : decode cX10_failure 103 = .ok (.ireturn, 1) := by decide +kernel
theorem dX10_failure_104 : decode cX10_failure 104 = .ok (.aload_n 0, 1) := by decide +kernel
theorem dX10_failure_105 : decode cX10_failure 105 = .ok (.getfield 29, 3) := by decide +kernel
theorem dX10_failure_108 : decode cX10_failure 108 = .ok (.getfield 171, 3) := by decide +kernel
theorem dX10_failure_111 : decode cX10_failure 111 = .ok (.ireturn, 1) := by decide +kernel
theorem dX10_typeOf_0 : decode cX10_typeOf 0 = .ok (.aload_n 0, 1) := by decide +kernel
theorem dX10_typeOf_1 : decode cX10_typeOf 1 = .ok (.iload_n 1, 1) := by decide +kernel
theorem dX10_typeOf_2 : decode cX10_typeOf 2 = .ok (.invokevirtual 126, 3) := by decide +kernel
theorem dX10_typeOf_5 : decode cX10_typeOf 5 = .ok (.astore_n 3, 1) := by decide +kernel
theorem dX10_typeOf_6 : decode cX10_typeOf 6 = .ok (.iload_n 2, 1) := by decide +kernel
theorem dX10_typeOf_7 : decode cX10_typeOf 7 = .ok (.invokestatic 174, 3) := by decide +kernel
theorem dX10_typeOf_10 : decode cX10_typeOf 10 = .ok (.aload_n 0, 1) := by decide +kernel
theorem dX10_typeOf_11 : decode cX10_typeOf 11 = .ok (.aload_n 3, 1) := by decide +kernel
theorem dX10_typeOf_12 : decode cX10_typeOf 12 = .ok (.aload_n 0, 1) := by decide +kernel
theorem dX10_typeOf_13 : decode cX10_typeOf 13 = .ok (.getfield 38, 3) := by decide +kernel
theorem dX10_typeOf_16 : decode cX10_typeOf 16 = .ok (.invokevirtual 177, 3) := by decide +kernel
theorem dX10_typeOf_19 : decode cX10_typeOf 19 = .ok (.aload_n 0, 1) := by decide +kernel
theorem dX10_typeOf_20 : decode cX10_typeOf 20 = .ok (.getfield 38, 3) := by decide +kernel
theorem dX10_typeOf_23 : decode cX10_typeOf 23 = .ok (.iload_n 2, 1) := by decide +kernel
theorem dX10_typeOf_24 : decode cX10_typeOf 24 = .ok (.invokevirtual 181, 3) := by decide +kernel
theorem dX10_typeOf_27 : decode cX10_typeOf 27 = .ok (.ireturn, 1) := by decide +kernel
theorem dX10_typeAgain_0 : decode cX10_typeAgain 0 = .ok (.aload_n 0, 1) := by decide +kernel
theorem dX10_typeAgain_1 : decode cX10_typeAgain 1 = .ok (.iload_n 1, 1) := by decide +kernel
theorem dX10_typeAgain_2 : decode cX10_typeAgain 2 = .ok (.invokevirtual 126, 3) := by decide +kernel
theorem dX10_typeAgain_5 : decode cX10_typeAgain 5 = .ok (.astore_n 3, 1) := by decide +kernel
theorem dX10_typeAgain_6 : decode cX10_typeAgain 6 = .ok (.iload_n 2, 1) := by decide +kernel
theorem dX10_typeAgain_7 : decode cX10_typeAgain 7 = .ok (.invokestatic 174, 3) := by decide +kernel
theorem dX10_typeAgain_10 : decode cX10_typeAgain 10 = .ok (.aload_n 0, 1) := by decide +kernel
theorem dX10_typeAgain_11 : decode cX10_typeAgain 11 = .ok (.aload_n 3, 1) := by decide +kernel
theorem dX10_typeAgain_12 : decode cX10_typeAgain 12 = .ok (.aload_n 0, 1) := by decide +kernel
theorem dX10_typeAgain_13 : decode cX10_typeAgain 13 = .ok (.getfield 38, 3) := by decide +kernel
theorem dX10_typeAgain_16 : decode cX10_typeAgain 16 = .ok (.invokevirtual 177, 3) := by decide +kernel
theorem dX10_typeAgain_19 : decode cX10_typeAgain 19 = .ok (.aload_n 0, 1) := by decide +kernel
theorem dX10_typeAgain_20 : decode cX10_typeAgain 20 = .ok (.getfield 29, 3) := by decide +kernel
theorem dX10_typeAgain_23 : decode cX10_typeAgain 23 = .ok (.aload_n 3, 1) := by decide +kernel
theorem dX10_typeAgain_24 : decode cX10_typeAgain 24 = .ok (.aload_n 0, 1) := by decide +kernel
theorem dX10_typeAgain_25 : decode cX10_typeAgain 25 = .ok (.getfield 48, 3) := by decide +kernel
theorem dX10_typeAgain_28 : decode cX10_typeAgain 28 = .ok (.iconst 1, 1) := by decide +kernel
theorem dX10_typeAgain_29 : decode cX10_typeAgain 29 = .ok (.invokevirtual 154, 3) := by decide +kernel
theorem dX10_typeAgain_32 : decode cX10_typeAgain 32 = .ok (.ifCond .ne 13, 3) := by decide +kernel
theorem dX10_typeAgain_35 : decode cX10_typeAgain 35 = .ok (.new 184, 3) := by decide +kernel
theorem dX10_typeAgain_38 : decode cX10_typeAgain 38 = .ok (.dup, 1) := by decide +kernel
theorem dX10_typeAgain_39 : decode cX10_typeAgain 39 = .ok (.ldc 186, 2) := by decide +kernel
theorem dX10_typeAgain_41 : decode cX10_typeAgain 41 = .ok (.invokespecial 188, 3) := by decide +kernel
theorem dX10_typeAgain_44 : decode cX10_typeAgain 44 = .ok (.athrow, 1) := by decide +kernel
theorem dX10_typeAgain_45 : decode cX10_typeAgain 45 = .ok (.aload_n 0, 1) := by decide +kernel
theorem dX10_typeAgain_46 : decode cX10_typeAgain 46 = .ok (.getfield 29, 3) := by decide +kernel
theorem dX10_typeAgain_49 : decode cX10_typeAgain 49 = .ok (.aload_n 0, 1) := by decide +kernel
theorem dX10_typeAgain_50 : decode cX10_typeAgain 50 = .ok (.getfield 42, 3) := by decide +kernel
theorem dX10_typeAgain_53 : decode cX10_typeAgain 53 = .ok (.invokevirtual 189, 3) := by decide +kernel
theorem dX10_typeAgain_56 : decode cX10_typeAgain 56 = .ok (.aload_n 0, 1) := by decide +kernel
theorem dX10_typeAgain_57 : decode cX10_typeAgain 57 = .ok (.getfield 42, 3) := by decide +kernel
theorem dX10_typeAgain_60 : decode cX10_typeAgain 60 = .ok (.iload_n 2, 1) := by decide +kernel
theorem dX10_typeAgain_61 : decode cX10_typeAgain 61 = .ok (.invokevirtual 181, 3) := by decide +kernel
theorem dX10_typeAgain_64 : decode cX10_typeAgain 64 = .ok (.ireturn, 1) := by decide +kernel
theorem dX10_nodeType_0 : decode cX10_nodeType 0 = .ok (.aload_n 0, 1) := by decide +kernel
theorem dX10_nodeType_1 : decode cX10_nodeType 1 = .ok (.iload_n 1, 1) := by decide +kernel
theorem dX10_nodeType_2 : decode cX10_nodeType 2 = .ok (.iload_n 2, 1) := by decide +kernel
theorem dX10_nodeType_3 : decode cX10_nodeType 3 = .ok (.invokevirtual 133, 3) := by decide +kernel
theorem dX10_nodeType_6 : decode cX10_nodeType 6 = .ok (.astore 4, 2) := by decide +kernel
theorem dX10_nodeType_8 : decode cX10_nodeType 8 = .ok (.iload_n 3, 1) := by decide +kernel
theorem dX10_nodeType_9 : decode cX10_nodeType 9 = .ok (.invokestatic 174, 3) := by decide +kernel
theorem dX10_nodeType_12 : decode cX10_nodeType 12 = .ok (.aload_n 0, 1) := by decide +kernel
theorem dX10_nodeType_13 : decode cX10_nodeType 13 = .ok (.aload 4, 2) := by decide +kernel
theorem dX10_nodeType_15 : decode cX10_nodeType 15 = .ok (.aload_n 0, 1) := by decide +kernel
theorem dX10_nodeType_16 : decode cX10_nodeType 16 = .ok (.getfield 38, 3) := by decide +kernel
theorem dX10_nodeType_19 : decode cX10_nodeType 19 = .ok (.invokevirtual 177, 3) := by decide +kernel
theorem dX10_nodeType_22 : decode cX10_nodeType 22 = .ok (.aload_n 0, 1) := by decide +kernel
theorem dX10_nodeType_23 : decode cX10_nodeType 23 = .ok (.getfield 29, 3) := by decide +kernel
theorem dX10_nodeType_26 : decode cX10_nodeType 26 = .ok (.iload_n 2, 1) := by decide +kernel
theorem dX10_nodeType_27 : decode cX10_nodeType 27 = .ok (.aload_n 0, 1) := by decide +kernel
theorem dX10_nodeType_28 : decode cX10_nodeType 28 = .ok (.getfield 38, 3) := by decide +kernel
theorem dX10_nodeType_31 : decode cX10_nodeType 31 = .ok (.invokevirtual 193, 3) := by decide +kernel
theorem dX10_nodeType_34 : decode cX10_nodeType 34 = .ok (.aload_n 0, 1) := by decide +kernel
theorem dX10_nodeType_35 : decode cX10_nodeType 35 = .ok (.getfield 38, 3) := by decide +kernel
theorem dX10_nodeType_38 : decode cX10_nodeType 38 = .ok (.iload_n 3, 1) := by decide +kernel
theorem dX10_nodeType_39 : decode cX10_nodeType 39 = .ok (.invokevirtual 181, 3) := by decide +kernel
theorem dX10_nodeType_42 : decode cX10_nodeType 42 = .ok (.ireturn, 1) := by decide +kernel
theorem dX10_isAlike_0 : decode cX10_isAlike 0 = .ok (.aload_n 0, 1) := by decide +kernel
theorem dX10_isAlike_1 : decode cX10_isAlike 1 = .ok (.iload_n 1, 1) := by decide +kernel
theorem dX10_isAlike_2 : decode cX10_isAlike 2 = .ok (.invokevirtual 126, 3) := by decide +kernel
theorem dX10_isAlike_5 : decode cX10_isAlike 5 = .ok (.astore_n 3, 1) := by decide +kernel
theorem dX10_isAlike_6 : decode cX10_isAlike 6 = .ok (.aload_n 0, 1) := by decide +kernel
theorem dX10_isAlike_7 : decode cX10_isAlike 7 = .ok (.iload_n 2, 1) := by decide +kernel
theorem dX10_isAlike_8 : decode cX10_isAlike 8 = .ok (.invokevirtual 126, 3) := by decide +kernel
theorem dX10_isAlike_11 : decode cX10_isAlike 11 = .ok (.astore 4, 2) := by decide +kernel
theorem dX10_isAlike_13 : decode cX10_isAlike 13 = .ok (.aload_n 0, 1) := by decide +kernel
theorem dX10_isAlike_14 : decode cX10_isAlike 14 = .ok (.aload_n 3, 1) := by decide +kernel
theorem dX10_isAlike_15 : decode cX10_isAlike 15 = .ok (.aload_n 0, 1) := by decide +kernel
theorem dX10_isAlike_16 : decode cX10_isAlike 16 = .ok (.getfield 38, 3) := by decide +kernel
theorem dX10_isAlike_19 : decode cX10_isAlike 19 = .ok (.invokevirtual 177, 3) := by decide +kernel
theorem dX10_isAlike_22 : decode cX10_isAlike 22 = .ok (.aload_n 0, 1) := by decide +kernel
theorem dX10_isAlike_23 : decode cX10_isAlike 23 = .ok (.aload 4, 2) := by decide +kernel
theorem dX10_isAlike_25 : decode cX10_isAlike 25 = .ok (.aload_n 0, 1) := by decide +kernel
theorem dX10_isAlike_26 : decode cX10_isAlike 26 = .ok (.getfield 42, 3) := by decide +kernel
theorem dX10_isAlike_29 : decode cX10_isAlike 29 = .ok (.invokevirtual 177, 3) := by decide +kernel
theorem dX10_isAlike_32 : decode cX10_isAlike 32 = .ok (.aload_n 0, 1) := by decide +kernel
theorem dX10_isAlike_33 : decode cX10_isAlike 33 = .ok (.getfield 38, 3) := by decide +kernel
theorem dX10_isAlike_36 : decode cX10_isAlike 36 = .ok (.aload_n 0, 1) := by decide +kernel
theorem dX10_isAlike_37 : decode cX10_isAlike 37 = .ok (.getfield 42, 3) := by decide +kernel
theorem dX10_isAlike_40 : decode cX10_isAlike 40 = .ok (.invokevirtual 197, 3) := by decide +kernel
theorem dX10_isAlike_43 : decode cX10_isAlike 43 = .ok (.ireturn, 1) := by decide +kernel
theorem dX10_isAsGeneral_0 : decode cX10_isAsGeneral 0 = .ok (.aload_n 0, 1) := by decide +kernel
theorem dX10_isAsGeneral_1 : decode cX10_isAsGeneral 1 = .ok (.iload_n 1, 1) := by decide +kernel
theorem dX10_isAsGeneral_2 : decode cX10_isAsGeneral 2 = .ok (.invokevirtual 126, 3) := by decide +kernel
theorem dX10_isAsGeneral_5 : decode cX10_isAsGeneral 5 = .ok (.astore_n 3, 1) := by decide +kernel
theorem dX10_isAsGeneral_6 : decode cX10_isAsGeneral 6 = .ok (.aload_n 0, 1) := by decide +kernel
theorem dX10_isAsGeneral_7 : decode cX10_isAsGeneral 7 = .ok (.iload_n 2, 1) := by decide +kernel
theorem dX10_isAsGeneral_8 : decode cX10_isAsGeneral 8 = .ok (.invokevirtual 126, 3) := by decide +kernel
theorem dX10_isAsGeneral_11 : decode cX10_isAsGeneral 11 = .ok (.astore 4, 2) := by decide +kernel
theorem dX10_isAsGeneral_13 : decode cX10_isAsGeneral 13 = .ok (.aload_n 0, 1) := by decide +kernel
theorem dX10_isAsGeneral_14 : decode cX10_isAsGeneral 14 = .ok (.aload_n 3, 1) := by decide +kernel
theorem dX10_isAsGeneral_15 : decode cX10_isAsGeneral 15 = .ok (.aload_n 0, 1) := by decide +kernel
theorem dX10_isAsGeneral_16 : decode cX10_isAsGeneral 16 = .ok (.getfield 38, 3) := by decide +kernel
theorem dX10_isAsGeneral_19 : decode cX10_isAsGeneral 19 = .ok (.invokevirtual 177, 3) := by decide +kernel
theorem dX10_isAsGeneral_22 : decode cX10_isAsGeneral 22 = .ok (.aload_n 0, 1) := by decide +kernel
theorem dX10_isAsGeneral_23 : decode cX10_isAsGeneral 23 = .ok (.aload 4, 2) := by decide +kernel
theorem dX10_isAsGeneral_25 : decode cX10_isAsGeneral 25 = .ok (.aload_n 0, 1) := by decide +kernel
theorem dX10_isAsGeneral_26 : decode cX10_isAsGeneral 26 = .ok (.getfield 42, 3) := by decide +kernel
theorem dX10_isAsGeneral_29 : decode cX10_isAsGeneral 29 = .ok (.invokevirtual 177, 3) := by decide +kernel
theorem dX10_isAsGeneral_32 : decode cX10_isAsGeneral 32 = .ok (.aload_n 0, 1) := by decide +kernel
theorem dX10_isAsGeneral_33 : decode cX10_isAsGeneral 33 = .ok (.getfield 38, 3) := by decide +kernel
theorem dX10_isAsGeneral_36 : decode cX10_isAsGeneral 36 = .ok (.aload_n 0, 1) := by decide +kernel
theorem dX10_isAsGeneral_37 : decode cX10_isAsGeneral 37 = .ok (.getfield 42, 3) := by decide +kernel
theorem dX10_isAsGeneral_40 : decode cX10_isAsGeneral 40 = .ok (.invokevirtual 201, 3) := by decide +kernel
theorem dX10_isAsGeneral_43 : decode cX10_isAsGeneral 43 = .ok (.ireturn, 1) := by decide +kernel
theorem dX10_fit_0 : decode cX10_fit 0 = .ok (.aload_n 0, 1) := by decide +kernel
theorem dX10_fit_1 : decode cX10_fit 1 = .ok (.iload_n 1, 1) := by decide +kernel
theorem dX10_fit_2 : decode cX10_fit 2 = .ok (.invokevirtual 126, 3) := by decide +kernel
theorem dX10_fit_5 : decode cX10_fit 5 = .ok (.astore_n 3, 1) := by decide +kernel
theorem dX10_fit_6 : decode cX10_fit 6 = .ok (.aload_n 0, 1) := by decide +kernel
theorem dX10_fit_7 : decode cX10_fit 7 = .ok (.iload_n 2, 1) := by decide +kernel
theorem dX10_fit_8 : decode cX10_fit 8 = .ok (.invokevirtual 126, 3) := by decide +kernel
theorem dX10_fit_11 : decode cX10_fit 11 = .ok (.astore 4, 2) := by decide +kernel
theorem dX10_fit_13 : decode cX10_fit 13 = .ok (.aload_n 0, 1) := by decide +kernel
theorem dX10_fit_14 : decode cX10_fit 14 = .ok (.aload_n 3, 1) := by decide +kernel
theorem dX10_fit_15 : decode cX10_fit 15 = .ok (.aload_n 0, 1) := by decide +kernel
theorem dX10_fit_16 : decode cX10_fit 16 = .ok (.getfield 38, 3) := by decide +kernel
theorem dX10_fit_19 : decode cX10_fit 19 = .ok (.invokevirtual 177, 3) := by decide +kernel
theorem dX10_fit_22 : decode cX10_fit 22 = .ok (.aload_n 0, 1) := by decide +kernel
theorem dX10_fit_23 : decode cX10_fit 23 = .ok (.aload 4, 2) := by decide +kernel
theorem dX10_fit_25 : decode cX10_fit 25 = .ok (.aload_n 0, 1) := by decide +kernel
theorem dX10_fit_26 : decode cX10_fit 26 = .ok (.getfield 42, 3) := by decide +kernel
theorem dX10_fit_29 : decode cX10_fit 29 = .ok (.invokevirtual 177, 3) := by decide +kernel
theorem dX10_fit_32 : decode cX10_fit 32 = .ok (.aload_n 0, 1) := by decide +kernel
theorem dX10_fit_33 : decode cX10_fit 33 = .ok (.getfield 29, 3) := by decide +kernel
theorem dX10_fit_36 : decode cX10_fit 36 = .ok (.aload_n 0, 1) := by decide +kernel
theorem dX10_fit_37 : decode cX10_fit 37 = .ok (.getfield 38, 3) := by decide +kernel
theorem dX10_fit_40 : decode cX10_fit 40 = .ok (.aload_n 0, 1) := by decide +kernel
theorem dX10_fit_41 : decode cX10_fit 41 = .ok (.getfield 42, 3) := by decide +kernel
theorem dX10_fit_44 : decode cX10_fit 44 = .ok (.invokevirtual 204, 3) := by decide +kernel
theorem dX10_fit_47 : decode cX10_fit 47 = .ok (.istore 5, 2) := by decide +kernel
theorem dX10_fit_49 : decode cX10_fit 49 = .ok (.iload 5, 2) := by decide +kernel
theorem dX10_fit_51 : decode cX10_fit 51 = .ok (.ifCond .ge 13, 3) := by decide +kernel
theorem dX10_fit_54 : decode cX10_fit 54 = .ok (.new 142, 3) := by decide +kernel
theorem dX10_fit_57 : decode cX10_fit 57 = .ok (.dup, 1) := by decide +kernel
theorem dX10_fit_58 : decode cX10_fit 58 = .ok (.ldc 208, 2) := by decide +kernel
theorem dX10_fit_60 : decode cX10_fit 60 = .ok (.invokespecial 146, 3) := by decide +kernel
theorem dX10_fit_63 : decode cX10_fit 63 = .ok (.athrow, 1) := by decide +kernel
theorem dX10_fit_64 : decode cX10_fit 64 = .ok (.iload 5, 2) := by decide +kernel
theorem dX10_fit_66 : decode cX10_fit 66 = .ok (.ireturn, 1) := by decide +kernel
theorem dX10_fitting_0 : decode cX10_fitting 0 = .ok (.aload_n 0, 1) := by decide +kernel
theorem dX10_fitting_1 : decode cX10_fitting 1 = .ok (.aload_n 0, 1) := by decide +kernel
theorem dX10_fitting_2 : decode cX10_fitting 2 = .ok (.iload_n 1, 1) := by decide +kernel
theorem dX10_fitting_3 : decode cX10_fitting 3 = .ok (.invokevirtual 126, 3) := by decide +kernel
theorem dX10_fitting_6 : decode cX10_fitting 6 = .ok (.aload_n 0, 1) := by decide +kernel
theorem dX10_fitting_7 : decode cX10_fitting 7 = .ok (.getfield 38, 3) := by decide +kernel
theorem dX10_fitting_10 : decode cX10_fitting 10 = .ok (.invokevirtual 177, 3) := by decide +kernel
theorem dX10_fitting_13 : decode cX10_fitting 13 = .ok (.iconst 0, 1) := by decide +kernel
theorem dX10_fitting_14 : decode cX10_fitting 14 = .ok (.istore_n 2, 1) := by decide +kernel
theorem dX10_fitting_15 : decode cX10_fitting 15 = .ok (.iconst 0, 1) := by decide +kernel
theorem dX10_fitting_16 : decode cX10_fitting 16 = .ok (.istore_n 3, 1) := by decide +kernel
theorem dX10_fitting_17 : decode cX10_fitting 17 = .ok (.iload_n 3, 1) := by decide +kernel
theorem dX10_fitting_18 : decode cX10_fitting 18 = .ok (.aload_n 0, 1) := by decide +kernel
theorem dX10_fitting_19 : decode cX10_fitting 19 = .ok (.getfield 48, 3) := by decide +kernel
theorem dX10_fitting_22 : decode cX10_fitting 22 = .ok (.getfield 83, 3) := by decide +kernel
theorem dX10_fitting_25 : decode cX10_fitting 25 = .ok (.if_icmp .ge 49, 3) := by decide +kernel
theorem dX10_fitting_28 : decode cX10_fitting 28 = .ok (.aload_n 0, 1) := by decide +kernel
theorem dX10_fitting_29 : decode cX10_fitting 29 = .ok (.aload_n 0, 1) := by decide +kernel
theorem dX10_fitting_30 : decode cX10_fitting 30 = .ok (.getfield 48, 3) := by decide +kernel
theorem dX10_fitting_33 : decode cX10_fitting 33 = .ok (.iload_n 3, 1) := by decide +kernel
theorem dX10_fitting_34 : decode cX10_fitting 34 = .ok (.invokevirtual 210, 3) := by decide +kernel
theorem dX10_fitting_37 : decode cX10_fitting 37 = .ok (.aload_n 0, 1) := by decide +kernel
theorem dX10_fitting_38 : decode cX10_fitting 38 = .ok (.getfield 42, 3) := by decide +kernel
theorem dX10_fitting_41 : decode cX10_fitting 41 = .ok (.invokevirtual 213, 3) := by decide +kernel
theorem dX10_fitting_44 : decode cX10_fitting 44 = .ok (.ifCond .eq 24, 3) := by decide +kernel
theorem dX10_fitting_47 : decode cX10_fitting 47 = .ok (.aload_n 0, 1) := by decide +kernel
theorem dX10_fitting_48 : decode cX10_fitting 48 = .ok (.getfield 29, 3) := by decide +kernel
theorem dX10_fitting_51 : decode cX10_fitting 51 = .ok (.aload_n 0, 1) := by decide +kernel
theorem dX10_fitting_52 : decode cX10_fitting 52 = .ok (.getfield 38, 3) := by decide +kernel
theorem dX10_fitting_55 : decode cX10_fitting 55 = .ok (.aload_n 0, 1) := by decide +kernel
theorem dX10_fitting_56 : decode cX10_fitting 56 = .ok (.getfield 42, 3) := by decide +kernel
theorem dX10_fitting_59 : decode cX10_fitting 59 = .ok (.invokevirtual 204, 3) := by decide +kernel
theorem dX10_fitting_62 : decode cX10_fitting 62 = .ok (.ifCond .lt 6, 3) := by decide +kernel
theorem dX10_fitting_65 : decode cX10_fitting 65 = .ok (.iinc 2 1, 3) := by decide +kernel
theorem dX10_fitting_68 : decode cX10_fitting 68 = .ok (.iinc 3 1, 3) := by decide +kernel
theorem dX10_fitting_71 : decode cX10_fitting 71 = .ok (.goto (-54), 3) := by decide +kernel
theorem dX10_fitting_74 : decode cX10_fitting 74 = .ok (.iload_n 2, 1) := by decide +kernel
theorem dX10_fitting_75 : decode cX10_fitting 75 = .ok (.ireturn, 1) := by decide +kernel
theorem dX10_isKept_0 : decode cX10_isKept 0 = .ok (.iload_n 1, 1) := by decide +kernel
theorem dX10_isKept_1 : decode cX10_isKept 1 = .ok (.invokestatic 217, 3) := by decide +kernel
theorem dX10_isKept_4 : decode cX10_isKept 4 = .ok (.aload_n 0, 1) := by decide +kernel
theorem dX10_isKept_5 : decode cX10_isKept 5 = .ok (.getfield 48, 3) := by decide +kernel
theorem dX10_isKept_8 : decode cX10_isKept 8 = .ok (.iload_n 1, 1) := by decide +kernel
theorem dX10_isKept_9 : decode cX10_isKept 9 = .ok (.invokevirtual 220, 3) := by decide +kernel
theorem dX10_isKept_12 : decode cX10_isKept 12 = .ok (.ifnull 7, 3) := by decide +kernel
theorem dX10_isKept_15 : decode cX10_isKept 15 = .ok (.iconst 1, 1) := by decide +kernel
theorem dX10_isKept_16 : decode cX10_isKept 16 = .ok (.goto 4, 3) := by decide +kernel
theorem dX10_isKept_19 : decode cX10_isKept 19 = .ok (.iconst 0, 1) := by decide +kernel
theorem dX10_isKept_20 : decode cX10_isKept 20 = .ok (.ireturn, 1) := by decide +kernel
theorem dX10_largest_0 : decode cX10_largest 0 = .ok (.iconst (-1), 1) := by decide +kernel
theorem dX10_largest_1 : decode cX10_largest 1 = .ok (.istore_n 1, 1) := by decide +kernel
theorem dX10_largest_2 : decode cX10_largest 2 = .ok (.iconst 0, 1) := by decide +kernel
theorem dX10_largest_3 : decode cX10_largest 3 = .ok (.istore_n 2, 1) := by decide +kernel
theorem dX10_largest_4 : decode cX10_largest 4 = .ok (.iconst 0, 1) := by decide +kernel
theorem dX10_largest_5 : decode cX10_largest 5 = .ok (.istore_n 3, 1) := by decide +kernel
theorem dX10_largest_6 : decode cX10_largest 6 = .ok (.iload_n 3, 1) := by decide +kernel
theorem dX10_largest_7 : decode cX10_largest 7 = .ok (.aload_n 0, 1) := by decide +kernel
theorem dX10_largest_8 : decode cX10_largest 8 = .ok (.getfield 48, 3) := by decide +kernel
theorem dX10_largest_11 : decode cX10_largest 11 = .ok (.getfield 83, 3) := by decide +kernel
theorem dX10_largest_14 : decode cX10_largest 14 = .ok (.if_icmp .ge 49, 3) := by decide +kernel
theorem dX10_largest_17 : decode cX10_largest 17 = .ok (.aload_n 0, 1) := by decide +kernel
theorem dX10_largest_18 : decode cX10_largest 18 = .ok (.aload_n 0, 1) := by decide +kernel
theorem dX10_largest_19 : decode cX10_largest 19 = .ok (.getfield 48, 3) := by decide +kernel
theorem dX10_largest_22 : decode cX10_largest 22 = .ok (.iload_n 3, 1) := by decide +kernel
theorem dX10_largest_23 : decode cX10_largest 23 = .ok (.invokevirtual 210, 3) := by decide +kernel
theorem dX10_largest_26 : decode cX10_largest 26 = .ok (.aload_n 0, 1) := by decide +kernel
theorem dX10_largest_27 : decode cX10_largest 27 = .ok (.getfield 38, 3) := by decide +kernel
theorem dX10_largest_30 : decode cX10_largest 30 = .ok (.invokevirtual 213, 3) := by decide +kernel
theorem dX10_largest_33 : decode cX10_largest 33 = .ok (.ifCond .eq 24, 3) := by decide +kernel
theorem dX10_largest_36 : decode cX10_largest 36 = .ok (.aload_n 0, 1) := by decide +kernel
theorem dX10_largest_37 : decode cX10_largest 37 = .ok (.getfield 38, 3) := by decide +kernel
theorem dX10_largest_40 : decode cX10_largest 40 = .ok (.getfield 224, 3) := by decide +kernel
theorem dX10_largest_43 : decode cX10_largest 43 = .ok (.iload_n 2, 1) := by decide +kernel
theorem dX10_largest_44 : decode cX10_largest 44 = .ok (.if_icmp .le 13, 3) := by decide +kernel
theorem dX10_largest_47 : decode cX10_largest 47 = .ok (.iload_n 3, 1) := by decide +kernel
theorem dX10_largest_48 : decode cX10_largest 48 = .ok (.istore_n 1, 1) := by decide +kernel
theorem dX10_largest_49 : decode cX10_largest 49 = .ok (.aload_n 0, 1) := by decide +kernel
theorem dX10_largest_50 : decode cX10_largest 50 = .ok (.getfield 38, 3) := by decide +kernel
theorem dX10_largest_53 : decode cX10_largest 53 = .ok (.getfield 224, 3) := by decide +kernel
theorem dX10_largest_56 : decode cX10_largest 56 = .ok (.istore_n 2, 1) := by decide +kernel
theorem dX10_largest_57 : decode cX10_largest 57 = .ok (.iinc 3 1, 3) := by decide +kernel
theorem dX10_largest_60 : decode cX10_largest 60 = .ok (.goto (-54), 3) := by decide +kernel
theorem dX10_largest_63 : decode cX10_largest 63 = .ok (.iload_n 1, 1) := by decide +kernel
theorem dX10_largest_64 : decode cX10_largest 64 = .ok (.ifCond .ge 13, 3) := by decide +kernel
theorem dX10_largest_67 : decode cX10_largest 67 = .ok (.new 142, 3) := by decide +kernel
theorem dX10_largest_70 : decode cX10_largest 70 = .ok (.dup, 1) := by decide +kernel
theorem dX10_largest_71 : decode cX10_largest 71 = .ok (.ldc 227, 2) := by decide +kernel
theorem dX10_largest_73 : decode cX10_largest 73 = .ok (.invokespecial 146, 3) := by decide +kernel
theorem dX10_largest_76 : decode cX10_largest 76 = .ok (.athrow, 1) := by decide +kernel
theorem dX10_largest_77 : decode cX10_largest 77 = .ok (.iload_n 1, 1) := by decide +kernel
theorem dX10_largest_78 : decode cX10_largest 78 = .ok (.ireturn, 1) := by decide +kernel
theorem dX10_ranked_0 : decode cX10_ranked 0 = .ok (.iconst 0, 1) := by decide +kernel
theorem dX10_ranked_1 : decode cX10_ranked 1 = .ok (.istore_n 2, 1) := by decide +kernel
theorem dX10_ranked_2 : decode cX10_ranked 2 = .ok (.iload_n 2, 1) := by decide +kernel
theorem dX10_ranked_3 : decode cX10_ranked 3 = .ok (.aload_n 0, 1) := by decide +kernel
theorem dX10_ranked_4 : decode cX10_ranked 4 = .ok (.getfield 48, 3) := by decide +kernel
theorem dX10_ranked_7 : decode cX10_ranked 7 = .ok (.getfield 83, 3) := by decide +kernel
theorem dX10_ranked_10 : decode cX10_ranked 10 = .ok (.if_icmp .ge 23, 3) := by decide +kernel
theorem dX10_ranked_13 : decode cX10_ranked 13 = .ok (.aload_n 0, 1) := by decide +kernel
theorem dX10_ranked_14 : decode cX10_ranked 14 = .ok (.getfield 48, 3) := by decide +kernel
theorem dX10_ranked_17 : decode cX10_ranked 17 = .ok (.iload_n 2, 1) := by decide +kernel
theorem dX10_ranked_18 : decode cX10_ranked 18 = .ok (.invokevirtual 229, 3) := by decide +kernel
theorem dX10_ranked_21 : decode cX10_ranked 21 = .ok (.iload_n 1, 1) := by decide +kernel
theorem dX10_ranked_22 : decode cX10_ranked 22 = .ok (.if_icmp .ne 5, 3) := by decide +kernel
theorem dX10_ranked_25 : decode cX10_ranked 25 = .ok (.iload_n 2, 1) := by decide +kernel
theorem dX10_ranked_26 : decode cX10_ranked 26 = .ok (.ireturn, 1) := by decide +kernel
theorem dX10_ranked_27 : decode cX10_ranked 27 = .ok (.iinc 2 1, 3) := by decide +kernel
theorem dX10_ranked_30 : decode cX10_ranked 30 = .ok (.goto (-28), 3) := by decide +kernel
theorem dX10_ranked_33 : decode cX10_ranked 33 = .ok (.new 142, 3) := by decide +kernel
theorem dX10_ranked_36 : decode cX10_ranked 36 = .ok (.dup, 1) := by decide +kernel
theorem dX10_ranked_37 : decode cX10_ranked 37 = .ok (.ldc 232, 2) := by decide +kernel
theorem dX10_ranked_39 : decode cX10_ranked 39 = .ok (.invokespecial 146, 3) := by decide +kernel
theorem dX10_ranked_42 : decode cX10_ranked 42 = .ok (.athrow, 1) := by decide +kernel
theorem dX10_isTold_0 : decode cX10_isTold 0 = .ok (.iconst 0, 1) := by decide +kernel
theorem dX10_isTold_1 : decode cX10_isTold 1 = .ok (.istore_n 1, 1) := by decide +kernel
theorem dX10_isTold_2 : decode cX10_isTold 2 = .ok (.iload_n 1, 1) := by decide +kernel
theorem dX10_isTold_3 : decode cX10_isTold 3 = .ok (.aload_n 0, 1) := by decide +kernel
theorem dX10_isTold_4 : decode cX10_isTold 4 = .ok (.getfield 48, 3) := by decide +kernel
theorem dX10_isTold_7 : decode cX10_isTold 7 = .ok (.getfield 83, 3) := by decide +kernel
theorem dX10_isTold_10 : decode cX10_isTold 10 = .ok (.if_icmp .ge 73, 3) := by decide +kernel
theorem dX10_isTold_13 : decode cX10_isTold 13 = .ok (.aload_n 0, 1) := by decide +kernel
theorem dX10_isTold_14 : decode cX10_isTold 14 = .ok (.getfield 48, 3) := by decide +kernel
theorem dX10_isTold_17 : decode cX10_isTold 17 = .ok (.iload_n 1, 1) := by decide +kernel
theorem dX10_isTold_18 : decode cX10_isTold 18 = .ok (.invokevirtual 210, 3) := by decide +kernel
theorem dX10_isTold_21 : decode cX10_isTold 21 = .ok (.astore_n 2, 1) := by decide +kernel
theorem dX10_isTold_22 : decode cX10_isTold 22 = .ok (.aload_n 0, 1) := by decide +kernel
theorem dX10_isTold_23 : decode cX10_isTold 23 = .ok (.aload_n 2, 1) := by decide +kernel
theorem dX10_isTold_24 : decode cX10_isTold 24 = .ok (.aload_n 0, 1) := by decide +kernel
theorem dX10_isTold_25 : decode cX10_isTold 25 = .ok (.getfield 38, 3) := by decide +kernel
theorem dX10_isTold_28 : decode cX10_isTold 28 = .ok (.invokevirtual 213, 3) := by decide +kernel
theorem dX10_isTold_31 : decode cX10_isTold 31 = .ok (.ifCond .eq 46, 3) := by decide +kernel
theorem dX10_isTold_34 : decode cX10_isTold 34 = .ok (.aload_n 0, 1) := by decide +kernel
theorem dX10_isTold_35 : decode cX10_isTold 35 = .ok (.getfield 29, 3) := by decide +kernel
theorem dX10_isTold_38 : decode cX10_isTold 38 = .ok (.aload_n 2, 1) := by decide +kernel
theorem dX10_isTold_39 : decode cX10_isTold 39 = .ok (.aload_n 0, 1) := by decide +kernel
theorem dX10_isTold_40 : decode cX10_isTold 40 = .ok (.getfield 48, 3) := by decide +kernel
theorem dX10_isTold_43 : decode cX10_isTold 43 = .ok (.iconst 1, 1) := by decide +kernel
theorem dX10_isTold_44 : decode cX10_isTold 44 = .ok (.invokevirtual 154, 3) := by decide +kernel
theorem dX10_isTold_47 : decode cX10_isTold 47 = .ok (.ifCond .eq 30, 3) := by decide +kernel
theorem dX10_isTold_50 : decode cX10_isTold 50 = .ok (.aload_n 0, 1) := by decide +kernel
theorem dX10_isTold_51 : decode cX10_isTold 51 = .ok (.getfield 29, 3) := by decide +kernel
theorem dX10_isTold_54 : decode cX10_isTold 54 = .ok (.aload_n 0, 1) := by decide +kernel
theorem dX10_isTold_55 : decode cX10_isTold 55 = .ok (.getfield 42, 3) := by decide +kernel
theorem dX10_isTold_58 : decode cX10_isTold 58 = .ok (.invokevirtual 189, 3) := by decide +kernel
theorem dX10_isTold_61 : decode cX10_isTold 61 = .ok (.aload_n 0, 1) := by decide +kernel
theorem dX10_isTold_62 : decode cX10_isTold 62 = .ok (.getfield 38, 3) := by decide +kernel
theorem dX10_isTold_65 : decode cX10_isTold 65 = .ok (.aload_n 0, 1) := by decide +kernel
theorem dX10_isTold_66 : decode cX10_isTold 66 = .ok (.getfield 42, 3) := by decide +kernel
theorem dX10_isTold_69 : decode cX10_isTold 69 = .ok (.invokevirtual 197, 3) := by decide +kernel
theorem dX10_isTold_72 : decode cX10_isTold 72 = .ok (.ifCond .ne 5, 3) := by decide +kernel
theorem dX10_isTold_75 : decode cX10_isTold 75 = .ok (.iconst 0, 1) := by decide +kernel
theorem dX10_isTold_76 : decode cX10_isTold 76 = .ok (.ireturn, 1) := by decide +kernel
theorem dX10_isTold_77 : decode cX10_isTold 77 = .ok (.iinc 1 1, 3) := by decide +kernel
theorem dX10_isTold_80 : decode cX10_isTold 80 = .ok (.goto (-78), 3) := by decide +kernel
theorem dX10_isTold_83 : decode cX10_isTold 83 = .ok (.iconst 1, 1) := by decide +kernel
theorem dX10_isTold_84 : decode cX10_isTold 84 = .ok (.ireturn, 1) := by decide +kernel
theorem dX10_append_0 : decode cX10_append 0 = .ok (.iload_n 1, 1) := by decide +kernel
theorem dX10_append_1 : decode cX10_append 1 = .ok (.bipush 33, 2) := by decide +kernel
theorem dX10_append_3 : decode cX10_append 3 = .ok (.if_icmp .lt 9, 3) := by decide +kernel
theorem dX10_append_6 : decode cX10_append 6 = .ok (.iload_n 1, 1) := by decide +kernel
theorem dX10_append_7 : decode cX10_append 7 = .ok (.bipush 126, 2) := by decide +kernel
theorem dX10_append_9 : decode cX10_append 9 = .ok (.if_icmp .le 13, 3) := by decide +kernel
theorem dX10_append_12 : decode cX10_append 12 = .ok (.new 76, 3) := by decide +kernel
theorem dX10_append_15 : decode cX10_append 15 = .ok (.dup, 1) := by decide +kernel
theorem dX10_append_16 : decode cX10_append 16 = .ok (.ldc 234, 2) := by decide +kernel
theorem dX10_append_18 : decode cX10_append 18 = .ok (.invokespecial 80, 3) := by decide +kernel
theorem dX10_append_21 : decode cX10_append 21 = .ok (.athrow, 1) := by decide +kernel
theorem dX10_append_22 : decode cX10_append 22 = .ok (.aload_n 0, 1) := by decide +kernel
theorem dX10_append_23 : decode cX10_append 23 = .ok (.getfield 12, 3) := by decide +kernel
theorem dX10_append_26 : decode cX10_append 26 = .ok (.invokevirtual 236, 3) := by decide +kernel
theorem dX10_append_29 : decode cX10_append 29 = .ok (.bipush 60, 2) := by decide +kernel
theorem dX10_append_31 : decode cX10_append 31 = .ok (.if_icmp .lt 13, 3) := by decide +kernel
theorem dX10_append_34 : decode cX10_append 34 = .ok (.new 184, 3) := by decide +kernel
theorem dX10_append_37 : decode cX10_append 37 = .ok (.dup, 1) := by decide +kernel
theorem dX10_append_38 : decode cX10_append 38 = .ok (.ldc 239, 2) := by decide +kernel
theorem dX10_append_40 : decode cX10_append 40 = .ok (.invokespecial 188, 3) := by decide +kernel
theorem dX10_append_43 : decode cX10_append 43 = .ok (.athrow, 1) := by decide +kernel
theorem dX10_append_44 : decode cX10_append 44 = .ok (.aload_n 0, 1) := by decide +kernel
theorem dX10_append_45 : decode cX10_append 45 = .ok (.getfield 12, 3) := by decide +kernel
theorem dX10_append_48 : decode cX10_append 48 = .ok (.iload_n 1, 1) := by decide +kernel
theorem dX10_append_49 : decode cX10_append 49 = .ok (.invokevirtual 241, 3) := by decide +kernel
theorem dX10_append_52 : decode cX10_append 52 = .ok (.pop, 1) := by decide +kernel
theorem dX10_append_53 : decode cX10_append 53 = .ok (.aload_n 0, 1) := by decide +kernel
theorem dX10_append_54 : decode cX10_append 54 = .ok (.getfield 12, 3) := by decide +kernel
theorem dX10_append_57 : decode cX10_append 57 = .ok (.invokevirtual 236, 3) := by decide +kernel
theorem dX10_append_60 : decode cX10_append 60 = .ok (.ireturn, 1) := by decide +kernel
theorem dX10_run_0 : decode cX10_run 0 = .ok (.aload_n 0, 1) := by decide +kernel
theorem dX10_run_1 : decode cX10_run 1 = .ok (.aload_n 0, 1) := by decide +kernel
theorem dX10_run_2 : decode cX10_run 2 = .ok (.getfield 12, 3) := by decide +kernel
theorem dX10_run_5 : decode cX10_run 5 = .ok (.invokestatic 245, 3) := by decide +kernel
theorem dX10_run_8 : decode cX10_run 8 = .ok (.putfield 65, 3) := by decide +kernel
theorem dX10_run_11 : decode cX10_run 11 = .ok (.aload_n 0, 1) := by decide +kernel
theorem dX10_run_12 : decode cX10_run 12 = .ok (.getfield 65, 3) := by decide +kernel
theorem dX10_run_15 : decode cX10_run 15 = .ok (.ifCond .lt 21, 3) := by decide +kernel
theorem dX10_run_18 : decode cX10_run 18 = .ok (.aload_n 0, 1) := by decide +kernel
theorem dX10_run_19 : decode cX10_run 19 = .ok (.getfield 12, 3) := by decide +kernel
theorem dX10_run_22 : decode cX10_run 22 = .ok (.iconst 0, 1) := by decide +kernel
theorem dX10_run_23 : decode cX10_run 23 = .ok (.invokevirtual 73, 3) := by decide +kernel
theorem dX10_run_26 : decode cX10_run 26 = .ok (.new 76, 3) := by decide +kernel
theorem dX10_run_29 : decode cX10_run 29 = .ok (.dup, 1) := by decide +kernel
theorem dX10_run_30 : decode cX10_run 30 = .ok (.ldc 248, 2) := by decide +kernel
theorem dX10_run_32 : decode cX10_run 32 = .ok (.invokespecial 80, 3) := by decide +kernel
theorem dX10_run_35 : decode cX10_run 35 = .ok (.athrow, 1) := by decide +kernel
theorem dX10_run_36 : decode cX10_run 36 = .ok (.aload_n 0, 1) := by decide +kernel
theorem dX10_run_37 : decode cX10_run 37 = .ok (.getfield 52, 3) := by decide +kernel
theorem dX10_run_40 : decode cX10_run 40 = .ok (.aload_n 0, 1) := by decide +kernel
theorem dX10_run_41 : decode cX10_run 41 = .ok (.getfield 48, 3) := by decide +kernel
theorem dX10_run_44 : decode cX10_run 44 = .ok (.invokevirtual 95, 3) := by decide +kernel
theorem dX10_run_47 : decode cX10_run 47 = .ok (.iconst 0, 1) := by decide +kernel
theorem dX10_run_48 : decode cX10_run 48 = .ok (.istore_n 1, 1) := by decide +kernel
theorem dX10_run_49 : decode cX10_run 49 = .ok (.iconst 0, 1) := by decide +kernel
theorem dX10_run_50 : decode cX10_run 50 = .ok (.istore_n 2, 1) := by decide +kernel
theorem dX10_run_51 : decode cX10_run 51 = .ok (.iconst 0, 1) := by decide +kernel
theorem dX10_run_52 : decode cX10_run 52 = .ok (.istore_n 3, 1) := by decide +kernel
theorem dX10_run_53 : decode cX10_run 53 = .ok (.iload_n 3, 1) := by decide +kernel
theorem dX10_run_54 : decode cX10_run 54 = .ok (.aload_n 0, 1) := by decide +kernel
theorem dX10_run_55 : decode cX10_run 55 = .ok (.getfield 12, 3) := by decide +kernel
theorem dX10_run_58 : decode cX10_run 58 = .ok (.invokevirtual 236, 3) := by decide +kernel
theorem dX10_run_61 : decode cX10_run 61 = .ok (.if_icmp .ge 121, 3) := by decide +kernel
theorem dX10_run_64 : decode cX10_run 64 = .ok (.iload_n 2, 1) := by decide +kernel
theorem dX10_run_65 : decode cX10_run 65 = .ok (.ifCond .lt 117, 3) := by decide +kernel
theorem dX10_run_68 : decode cX10_run 68 = .ok (.aload_n 0, 1) := by decide +kernel
theorem dX10_run_69 : decode cX10_run 69 = .ok (.getfield 12, 3) := by decide +kernel
theorem dX10_run_72 : decode cX10_run 72 = .ok (.iload_n 3, 1) := by decide +kernel
theorem dX10_run_73 : decode cX10_run 73 = .ok (.invokestatic 250, 3) := by decide +kernel
theorem dX10_run_76 : decode cX10_run 76 = .ok (.istore 4, 2) := by decide +kernel
theorem dX10_run_78 : decode cX10_run 78 = .ok (.aload_n 0, 1) := by decide +kernel
theorem dX10_run_79 : decode cX10_run 79 = .ok (.getfield 12, 3) := by decide +kernel
theorem dX10_run_82 : decode cX10_run 82 = .ok (.iload_n 3, 1) := by decide +kernel
theorem dX10_run_83 : decode cX10_run 83 = .ok (.iconst 1, 1) := by decide +kernel
theorem dX10_run_84 : decode cX10_run 84 = .ok (.iadd, 1) := by decide +kernel
theorem dX10_run_85 : decode cX10_run 85 = .ok (.invokestatic 250, 3) := by decide +kernel
theorem dX10_run_88 : decode cX10_run 88 = .ok (.istore 5, 2) := by decide +kernel
theorem dX10_run_90 : decode cX10_run 90 = .ok (.iload 4, 2) := by decide +kernel
theorem dX10_run_92 : decode cX10_run 92 = .ok (.bipush 107, 2) := by decide +kernel
theorem dX10_run_94 : decode cX10_run 94 = .ok (.if_icmp .ne 28, 3) := by decide +kernel
theorem dX10_run_97 : decode cX10_run 97 = .ok (.aload_n 0, 1) := by decide +kernel
theorem dX10_run_98 : decode cX10_run 98 = .ok (.iload 5, 2) := by decide +kernel
theorem dX10_run_100 : decode cX10_run 100 = .ok (.bipush 48, 2) := by decide +kernel
theorem dX10_run_102 : decode cX10_run 102 = .ok (.isub, 1) := by decide +kernel
theorem dX10_run_103 : decode cX10_run 103 = .ok (.aload_n 0, 1) := by decide +kernel
theorem dX10_run_104 : decode cX10_run 104 = .ok (.getfield 12, 3) := by decide +kernel
theorem dX10_run_107 : decode cX10_run 107 = .ok (.iload_n 3, 1) := by decide +kernel
theorem dX10_run_108 : decode cX10_run 108 = .ok (.iconst 2, 1) := by decide +kernel
theorem dX10_run_109 : decode cX10_run 109 = .ok (.iadd, 1) := by decide +kernel
theorem dX10_run_110 : decode cX10_run 110 = .ok (.invokestatic 250, 3) := by decide +kernel
theorem dX10_run_113 : decode cX10_run 113 = .ok (.bipush 65, 2) := by decide +kernel
theorem dX10_run_115 : decode cX10_run 115 = .ok (.isub, 1) := by decide +kernel
theorem dX10_run_116 : decode cX10_run 116 = .ok (.invokevirtual 116, 3) := by decide +kernel
theorem dX10_run_119 : decode cX10_run 119 = .ok (.goto 31, 3) := by decide +kernel
theorem dX10_run_122 : decode cX10_run 122 = .ok (.iload 4, 2) := by decide +kernel
theorem dX10_run_124 : decode cX10_run 124 = .ok (.bipush 117, 2) := by decide +kernel
theorem dX10_run_126 : decode cX10_run 126 = .ok (.if_icmp .ne 15, 3) := by decide +kernel
theorem dX10_run_129 : decode cX10_run 129 = .ok (.aload_n 0, 1) := by decide +kernel
theorem dX10_run_130 : decode cX10_run 130 = .ok (.iload 5, 2) := by decide +kernel
theorem dX10_run_132 : decode cX10_run 132 = .ok (.bipush 65, 2) := by decide +kernel
theorem dX10_run_134 : decode cX10_run 134 = .ok (.isub, 1) := by decide +kernel
theorem dX10_run_135 : decode cX10_run 135 = .ok (.invokevirtual 121, 3) := by decide +kernel
theorem dX10_run_138 : decode cX10_run 138 = .ok (.goto 12, 3) := by decide +kernel
theorem dX10_run_141 : decode cX10_run 141 = .ok (.aload_n 0, 1) := by decide +kernel
theorem dX10_run_142 : decode cX10_run 142 = .ok (.iload 5, 2) := by decide +kernel
theorem dX10_run_144 : decode cX10_run 144 = .ok (.bipush 48, 2) := by decide +kernel
theorem dX10_run_146 : decode cX10_run 146 = .ok (.isub, 1) := by decide +kernel
theorem dX10_run_147 : decode cX10_run 147 = .ok (.invokevirtual 110, 3) := by decide +kernel
theorem dX10_run_150 : decode cX10_run 150 = .ok (.istore_n 2, 1) := by decide +kernel
theorem dX10_run_151 : decode cX10_run 151 = .ok (.iload_n 1, 1) := by decide +kernel
theorem dX10_run_152 : decode cX10_run 152 = .ok (.iload_n 2, 1) := by decide +kernel
theorem dX10_run_153 : decode cX10_run 153 = .ok (.ifCond .ge 7, 3) := by decide +kernel
theorem dX10_run_156 : decode cX10_run 156 = .ok (.iconst 0, 1) := by decide +kernel
theorem dX10_run_157 : decode cX10_run 157 = .ok (.goto 4, 3) := by decide +kernel
theorem dX10_run_160 : decode cX10_run 160 = .ok (.iconst 1, 1) := by decide +kernel
theorem dX10_run_161 : decode cX10_run 161 = .ok (.iadd, 1) := by decide +kernel
theorem dX10_run_162 : decode cX10_run 162 = .ok (.istore_n 1, 1) := by decide +kernel
theorem dX10_run_163 : decode cX10_run 163 = .ok (.iload_n 3, 1) := by decide +kernel
theorem dX10_run_164 : decode cX10_run 164 = .ok (.aload_n 0, 1) := by decide +kernel
theorem dX10_run_165 : decode cX10_run 165 = .ok (.getfield 12, 3) := by decide +kernel
theorem dX10_run_168 : decode cX10_run 168 = .ok (.iload_n 3, 1) := by decide +kernel
theorem dX10_run_169 : decode cX10_run 169 = .ok (.invokestatic 250, 3) := by decide +kernel
theorem dX10_run_172 : decode cX10_run 172 = .ok (.invokestatic 254, 3) := by decide +kernel
theorem dX10_run_175 : decode cX10_run 175 = .ok (.iconst 1, 1) := by decide +kernel
theorem dX10_run_176 : decode cX10_run 176 = .ok (.iadd, 1) := by decide +kernel
theorem dX10_run_177 : decode cX10_run 177 = .ok (.iadd, 1) := by decide +kernel
theorem dX10_run_178 : decode cX10_run 178 = .ok (.istore_n 3, 1) := by decide +kernel
theorem dX10_run_179 : decode cX10_run 179 = .ok (.goto (-126), 3) := by decide +kernel
theorem dX10_run_182 : decode cX10_run 182 = .ok (.aload_n 0, 1) := by decide +kernel
theorem dX10_run_183 : decode cX10_run 183 = .ok (.getfield 12, 3) := by decide +kernel
theorem dX10_run_186 : decode cX10_run 186 = .ok (.iconst 0, 1) := by decide +kernel
theorem dX10_run_187 : decode cX10_run 187 = .ok (.invokevirtual 73, 3) := by decide +kernel
theorem dX10_run_190 : decode cX10_run 190 = .ok (.iload_n 2, 1) := by decide +kernel
theorem dX10_run_191 : decode cX10_run 191 = .ok (.ifCond .ge 43, 3) := by decide +kernel
theorem dX10_run_194 : decode cX10_run 194 = .ok (.aload_n 0, 1) := by decide +kernel
theorem dX10_run_195 : decode cX10_run 195 = .ok (.new 258, 3) := by decide +kernel
theorem dX10_run_198 : decode cX10_run 198 = .ok (.dup, 1) := by decide +kernel
theorem dX10_run_199 : decode cX10_run 199 = .ok (.bipush 9, 2) := by decide +kernel
theorem dX10_run_201 : decode cX10_run 201 = .ok (.iload_n 1, 1) := by decide +kernel
theorem dX10_run_202 : decode cX10_run 202 = .ok (.aload_n 0, 1) := by decide +kernel
theorem dX10_run_203 : decode cX10_run 203 = .ok (.getfield 260, 3) := by decide +kernel
theorem dX10_run_206 : decode cX10_run 206 = .ok (.invokespecial 264, 3) := by decide +kernel
theorem dX10_run_209 : decode cX10_run 209 = .ok (.putfield 260, 3) := by decide +kernel
theorem dX10_run_212 : decode cX10_run 212 = .ok (.aload_n 0, 1) := by decide +kernel
theorem dX10_run_213 : decode cX10_run 213 = .ok (.getfield 48, 3) := by decide +kernel
theorem dX10_run_216 : decode cX10_run 216 = .ok (.aload_n 0, 1) := by decide +kernel
theorem dX10_run_217 : decode cX10_run 217 = .ok (.getfield 52, 3) := by decide +kernel
theorem dX10_run_220 : decode cX10_run 220 = .ok (.invokevirtual 95, 3) := by decide +kernel
theorem dX10_run_223 : decode cX10_run 223 = .ok (.new 90, 3) := by decide +kernel
theorem dX10_run_226 : decode cX10_run 226 = .ok (.dup, 1) := by decide +kernel
theorem dX10_run_227 : decode cX10_run 227 = .ok (.ldc_w 267, 3) := by decide +kernel
theorem dX10_run_230 : decode cX10_run 230 = .ok (.invokespecial 94, 3) := by decide +kernel
theorem dX10_run_233 : decode cX10_run 233 = .ok (.athrow, 1) := by decide +kernel
theorem dX10_run_234 : decode cX10_run 234 = .ok (.aload_n 0, 1) := by decide +kernel
theorem dX10_run_235 : decode cX10_run 235 = .ok (.getfield 61, 3) := by decide +kernel
theorem dX10_run_238 : decode cX10_run 238 = .ok (.aload_n 0, 1) := by decide +kernel
theorem dX10_run_239 : decode cX10_run 239 = .ok (.getfield 52, 3) := by decide +kernel
theorem dX10_run_242 : decode cX10_run 242 = .ok (.invokevirtual 107, 3) := by decide +kernel
theorem dX10_run_245 : decode cX10_run 245 = .ok (.iload_n 1, 1) := by decide +kernel
theorem dX10_run_246 : decode cX10_run 246 = .ok (.ireturn, 1) := by decide +kernel
theorem dX10_faultPosition_0 : decode cX10_faultPosition 0 = .ok (.aload_n 0, 1) := by decide +kernel
theorem dX10_faultPosition_1 : decode cX10_faultPosition 1 = .ok (.getfield 65, 3) := by decide +kernel
theorem dX10_faultPosition_4 : decode cX10_faultPosition 4 = .ok (.ireturn, 1) := by decide +kernel
theorem dX10_reason_0 : decode cX10_reason 0 = .ok (.iload_n 1, 1) := by decide +kernel
theorem dX10_reason_1 : decode cX10_reason 1 = .ok (.ifCond .eq 19, 3) := by decide +kernel
theorem dX10_reason_4 : decode cX10_reason 4 = .ok (.iload_n 1, 1) := by decide +kernel
theorem dX10_reason_5 : decode cX10_reason 5 = .ok (.iconst 1, 1) := by decide +kernel
theorem dX10_reason_6 : decode cX10_reason 6 = .ok (.if_icmp .eq 14, 3) := by decide +kernel
theorem dX10_reason_9 : decode cX10_reason 9 = .ok (.new 76, 3) := by decide +kernel
theorem dX10_reason_12 : decode cX10_reason 12 = .ok (.dup, 1) := by decide +kernel
theorem dX10_reason_13 : decode cX10_reason 13 = .ok (.ldc_w 269, 3) := by decide +kernel
theorem dX10_reason_16 : decode cX10_reason 16 = .ok (.invokespecial 80, 3) := by decide +kernel
theorem dX10_reason_19 : decode cX10_reason 19 = .ok (.athrow, 1) := by decide +kernel
theorem dX10_reason_20 : decode cX10_reason 20 = .ok (.iload_n 1, 1) := by decide +kernel
theorem dX10_reason_21 : decode cX10_reason 21 = .ok (.iconst 1, 1) := by decide +kernel
theorem dX10_reason_22 : decode cX10_reason 22 = .ok (.if_icmp .ne 20, 3) := by decide +kernel
theorem dX10_reason_25 : decode cX10_reason 25 = .ok (.aload_n 0, 1) := by decide +kernel
theorem dX10_reason_26 : decode cX10_reason 26 = .ok (.getfield 260, 3) := by decide +kernel
theorem dX10_reason_29 : decode cX10_reason 29 = .ok (.ifnull 13, 3) := by decide +kernel
theorem dX10_reason_32 : decode cX10_reason 32 = .ok (.aload_n 0, 1) := by decide +kernel
theorem dX10_reason_33 : decode cX10_reason 33 = .ok (.getfield 260, 3) := by decide +kernel
theorem dX10_reason_36 : decode cX10_reason 36 = .ok (.getfield 271, 3) := by decide +kernel
theorem dX10_reason_39 : decode cX10_reason 39 = .ok (.goto 7, 3) := by decide +kernel
theorem dX10_reason_42 : decode cX10_reason 42 = .ok (.aload_n 0, 1) := by decide +kernel
theorem dX10_reason_43 : decode cX10_reason 43 = .ok (.getfield 260, 3) := by decide +kernel
theorem dX10_reason_46 : decode cX10_reason 46 = .ok (.astore_n 3, 1) := by decide +kernel
theorem dX10_reason_47 : decode cX10_reason 47 = .ok (.aload_n 3, 1) := by decide +kernel
theorem dX10_reason_48 : decode cX10_reason 48 = .ok (.ifnonnull 14, 3) := by decide +kernel
theorem dX10_reason_51 : decode cX10_reason 51 = .ok (.new 142, 3) := by decide +kernel
theorem dX10_reason_54 : decode cX10_reason 54 = .ok (.dup, 1) := by decide +kernel
theorem dX10_reason_55 : decode cX10_reason 55 = .ok (.ldc_w 274, 3) := by decide +kernel
theorem dX10_reason_58 : decode cX10_reason 58 = .ok (.invokespecial 146, 3) := by decide +kernel
theorem dX10_reason_61 : decode cX10_reason 61 = .ok (.athrow, 1) := by decide +kernel
theorem dX10_reason_62 : decode cX10_reason 62 = .ok (.iload_n 2, 1) := by decide +kernel
theorem dX10_reason_63 : decode cX10_reason 63 = .ok (.ifCond .eq 10, 3) := by decide +kernel
theorem dX10_reason_66 : decode cX10_reason 66 = .ok (.aload_n 3, 1) := by decide +kernel
theorem dX10_reason_67 : decode cX10_reason 67 = .ok (.getfield 276, 3) := by decide +kernel
theorem dX10_reason_70 : decode cX10_reason 70 = .ok (.goto 7, 3) := by decide +kernel
theorem dX10_reason_73 : decode cX10_reason 73 = .ok (.aload_n 3, 1) := by decide +kernel
theorem dX10_reason_74 : decode cX10_reason 74 = .ok (.getfield 279, 3) := by decide +kernel
theorem dX10_reason_77 : decode cX10_reason 77 = .ok (.ireturn, 1) := by decide +kernel
theorem dX10_tell_0 : decode cX10_tell 0 = .ok (.aload_n 0, 1) := by decide +kernel
theorem dX10_tell_1 : decode cX10_tell 1 = .ok (.aload_n 0, 1) := by decide +kernel
theorem dX10_tell_2 : decode cX10_tell 2 = .ok (.iload_n 1, 1) := by decide +kernel
theorem dX10_tell_3 : decode cX10_tell 3 = .ok (.invokevirtual 126, 3) := by decide +kernel
theorem dX10_tell_6 : decode cX10_tell 6 = .ok (.aload_n 0, 1) := by decide +kernel
theorem dX10_tell_7 : decode cX10_tell 7 = .ok (.getfield 38, 3) := by decide +kernel
theorem dX10_tell_10 : decode cX10_tell 10 = .ok (.invokevirtual 177, 3) := by decide +kernel
theorem dX10_tell_13 : decode cX10_tell 13 = .ok (.aload_n 0, 1) := by decide +kernel
theorem dX10_tell_14 : decode cX10_tell 14 = .ok (.aload_n 0, 1) := by decide +kernel
theorem dX10_tell_15 : decode cX10_tell 15 = .ok (.getfield 38, 3) := by decide +kernel
theorem dX10_tell_18 : decode cX10_tell 18 = .ok (.invokevirtual 282, 3) := by decide +kernel
theorem dX10_tell_21 : decode cX10_tell 21 = .ok (.ireturn, 1) := by decide +kernel
theorem dX10_tellNode_0 : decode cX10_tellNode 0 = .ok (.aload_n 0, 1) := by decide +kernel
theorem dX10_tellNode_1 : decode cX10_tellNode 1 = .ok (.aload_n 0, 1) := by decide +kernel
theorem dX10_tellNode_2 : decode cX10_tellNode 2 = .ok (.iload_n 1, 1) := by decide +kernel
theorem dX10_tellNode_3 : decode cX10_tellNode 3 = .ok (.iload_n 2, 1) := by decide +kernel
theorem dX10_tellNode_4 : decode cX10_tellNode 4 = .ok (.invokevirtual 133, 3) := by decide +kernel
theorem dX10_tellNode_7 : decode cX10_tellNode 7 = .ok (.aload_n 0, 1) := by decide +kernel
theorem dX10_tellNode_8 : decode cX10_tellNode 8 = .ok (.getfield 38, 3) := by decide +kernel
theorem dX10_tellNode_11 : decode cX10_tellNode 11 = .ok (.invokevirtual 177, 3) := by decide +kernel
theorem dX10_tellNode_14 : decode cX10_tellNode 14 = .ok (.aload_n 0, 1) := by decide +kernel
theorem dX10_tellNode_15 : decode cX10_tellNode 15 = .ok (.getfield 29, 3) := by decide +kernel
theorem dX10_tellNode_18 : decode cX10_tellNode 18 = .ok (.iload_n 2, 1) := by decide +kernel
theorem dX10_tellNode_19 : decode cX10_tellNode 19 = .ok (.aload_n 0, 1) := by decide +kernel
theorem dX10_tellNode_20 : decode cX10_tellNode 20 = .ok (.getfield 38, 3) := by decide +kernel
theorem dX10_tellNode_23 : decode cX10_tellNode 23 = .ok (.invokevirtual 193, 3) := by decide +kernel
theorem dX10_tellNode_26 : decode cX10_tellNode 26 = .ok (.aload_n 0, 1) := by decide +kernel
theorem dX10_tellNode_27 : decode cX10_tellNode 27 = .ok (.aload_n 0, 1) := by decide +kernel
theorem dX10_tellNode_28 : decode cX10_tellNode 28 = .ok (.getfield 38, 3) := by decide +kernel
theorem dX10_tellNode_31 : decode cX10_tellNode 31 = .ok (.invokevirtual 282, 3) := by decide +kernel
theorem dX10_tellNode_34 : decode cX10_tellNode 34 = .ok (.ireturn, 1) := by decide +kernel
theorem dX10_tellKept_0 : decode cX10_tellKept 0 = .ok (.iload_n 1, 1) := by decide +kernel
theorem dX10_tellKept_1 : decode cX10_tellKept 1 = .ok (.invokestatic 217, 3) := by decide +kernel
theorem dX10_tellKept_4 : decode cX10_tellKept 4 = .ok (.aload_n 0, 1) := by decide +kernel
theorem dX10_tellKept_5 : decode cX10_tellKept 5 = .ok (.getfield 48, 3) := by decide +kernel
theorem dX10_tellKept_8 : decode cX10_tellKept 8 = .ok (.iload_n 1, 1) := by decide +kernel
theorem dX10_tellKept_9 : decode cX10_tellKept 9 = .ok (.invokevirtual 220, 3) := by decide +kernel
theorem dX10_tellKept_12 : decode cX10_tellKept 12 = .ok (.astore_n 2, 1) := by decide +kernel
theorem dX10_tellKept_13 : decode cX10_tellKept 13 = .ok (.aload_n 2, 1) := by decide +kernel
theorem dX10_tellKept_14 : decode cX10_tellKept 14 = .ok (.ifnonnull 14, 3) := by decide +kernel
theorem dX10_tellKept_17 : decode cX10_tellKept 17 = .ok (.new 142, 3) := by decide +kernel
theorem dX10_tellKept_20 : decode cX10_tellKept 20 = .ok (.dup, 1) := by decide +kernel
theorem dX10_tellKept_21 : decode cX10_tellKept 21 = .ok (.ldc_w 286, 3) := by decide +kernel
theorem dX10_tellKept_24 : decode cX10_tellKept 24 = .ok (.invokespecial 146, 3) := by decide +kernel
theorem dX10_tellKept_27 : decode cX10_tellKept 27 = .ok (.athrow, 1) := by decide +kernel
theorem dX10_tellKept_28 : decode cX10_tellKept 28 = .ok (.aload_n 0, 1) := by decide +kernel
theorem dX10_tellKept_29 : decode cX10_tellKept 29 = .ok (.aload_n 2, 1) := by decide +kernel
theorem dX10_tellKept_30 : decode cX10_tellKept 30 = .ok (.invokevirtual 282, 3) := by decide +kernel
theorem dX10_tellKept_33 : decode cX10_tellKept 33 = .ok (.ireturn, 1) := by decide +kernel
theorem dX10_tellTerm_0 : decode cX10_tellTerm 0 = .ok (.aload_n 0, 1) := by decide +kernel
theorem dX10_tellTerm_1 : decode cX10_tellTerm 1 = .ok (.iload_n 1, 1) := by decide +kernel
theorem dX10_tellTerm_2 : decode cX10_tellTerm 2 = .ok (.invokevirtual 126, 3) := by decide +kernel
theorem dX10_tellTerm_5 : decode cX10_tellTerm 5 = .ok (.astore_n 2, 1) := by decide +kernel
theorem dX10_tellTerm_6 : decode cX10_tellTerm 6 = .ok (.aload_n 0, 1) := by decide +kernel
theorem dX10_tellTerm_7 : decode cX10_tellTerm 7 = .ok (.getfield 16, 3) := by decide +kernel
theorem dX10_tellTerm_10 : decode cX10_tellTerm 10 = .ok (.iconst 0, 1) := by decide +kernel
theorem dX10_tellTerm_11 : decode cX10_tellTerm 11 = .ok (.invokevirtual 73, 3) := by decide +kernel
theorem dX10_tellTerm_14 : decode cX10_tellTerm 14 = .ok (.aload_n 2, 1) := by decide +kernel
theorem dX10_tellTerm_15 : decode cX10_tellTerm 15 = .ok (.aload_n 0, 1) := by decide +kernel
theorem dX10_tellTerm_16 : decode cX10_tellTerm 16 = .ok (.getfield 16, 3) := by decide +kernel
theorem dX10_tellTerm_19 : decode cX10_tellTerm 19 = .ok (.invokevirtual 288, 3) := by decide +kernel
theorem dX10_tellTerm_22 : decode cX10_tellTerm 22 = .ok (.aload_n 0, 1) := by decide +kernel
theorem dX10_tellTerm_23 : decode cX10_tellTerm 23 = .ok (.getfield 16, 3) := by decide +kernel
theorem dX10_tellTerm_26 : decode cX10_tellTerm 26 = .ok (.invokevirtual 236, 3) := by decide +kernel
theorem dX10_tellTerm_29 : decode cX10_tellTerm 29 = .ok (.ireturn, 1) := by decide +kernel
theorem dX10_character_0 : decode cX10_character 0 = .ok (.iload_n 1, 1) := by decide +kernel
theorem dX10_character_1 : decode cX10_character 1 = .ok (.ifCond .lt 14, 3) := by decide +kernel
theorem dX10_character_4 : decode cX10_character 4 = .ok (.iload_n 1, 1) := by decide +kernel
theorem dX10_character_5 : decode cX10_character 5 = .ok (.aload_n 0, 1) := by decide +kernel
theorem dX10_character_6 : decode cX10_character 6 = .ok (.getfield 16, 3) := by decide +kernel
theorem dX10_character_9 : decode cX10_character 9 = .ok (.invokevirtual 236, 3) := by decide +kernel
theorem dX10_character_12 : decode cX10_character 12 = .ok (.if_icmp .lt 14, 3) := by decide +kernel
theorem dX10_character_15 : decode cX10_character 15 = .ok (.new 292, 3) := by decide +kernel
theorem dX10_character_18 : decode cX10_character 18 = .ok (.dup, 1) := by decide +kernel
theorem dX10_character_19 : decode cX10_character 19 = .ok (.ldc_w 294, 3) := by decide +kernel
theorem dX10_character_22 : decode cX10_character 22 = .ok (.invokespecial 296, 3) := by decide +kernel
theorem dX10_character_25 : decode cX10_character 25 = .ok (.athrow, 1) := by decide +kernel
theorem dX10_character_26 : decode cX10_character 26 = .ok (.aload_n 0, 1) := by decide +kernel
theorem dX10_character_27 : decode cX10_character 27 = .ok (.getfield 16, 3) := by decide +kernel
theorem dX10_character_30 : decode cX10_character 30 = .ok (.iload_n 1, 1) := by decide +kernel
theorem dX10_character_31 : decode cX10_character 31 = .ok (.invokevirtual 297, 3) := by decide +kernel
theorem dX10_character_34 : decode cX10_character 34 = .ok (.ireturn, 1) := by decide +kernel
theorem dX10_account_0 : decode cX10_account 0 = .ok (.iload_n 1, 1) := by decide +kernel
theorem dX10_account_1 : decode cX10_account 1 = .ok (.tableswitch 159 0 12 #[67, 75, 81, 87, 93, 99, 107, 115, 123, 131, 136, 144, 152], 67) := by decide +kernel
theorem dX10_account_68 : decode cX10_account 68 = .ok (.aload_n 0, 1) := by decide +kernel
theorem dX10_account_69 : decode cX10_account 69 = .ok (.getfield 48, 3) := by decide +kernel
theorem dX10_account_72 : decode cX10_account 72 = .ok (.getfield 83, 3) := by decide +kernel
theorem dX10_account_75 : decode cX10_account 75 = .ok (.ireturn, 1) := by decide +kernel
theorem dX10_account_76 : decode cX10_account 76 = .ok (.aload_n 0, 1) := by decide +kernel
theorem dX10_account_77 : decode cX10_account 77 = .ok (.iconst 0, 1) := by decide +kernel
theorem dX10_account_78 : decode cX10_account 78 = .ok (.invokevirtual 301, 3) := by decide +kernel
theorem dX10_account_81 : decode cX10_account 81 = .ok (.ireturn, 1) := by decide +kernel
theorem dX10_account_82 : decode cX10_account 82 = .ok (.aload_n 0, 1) := by decide +kernel
theorem dX10_account_83 : decode cX10_account 83 = .ok (.iconst 3, 1) := by decide +kernel
theorem dX10_account_84 : decode cX10_account 84 = .ok (.invokevirtual 301, 3) := by decide +kernel
theorem dX10_account_87 : decode cX10_account 87 = .ok (.ireturn, 1) := by decide +kernel
theorem dX10_account_88 : decode cX10_account 88 = .ok (.aload_n 0, 1) := by decide +kernel
theorem dX10_account_89 : decode cX10_account 89 = .ok (.iconst 4, 1) := by decide +kernel
theorem dX10_account_90 : decode cX10_account 90 = .ok (.invokevirtual 301, 3) := by decide +kernel
theorem dX10_account_93 : decode cX10_account 93 = .ok (.ireturn, 1) := by decide +kernel
theorem dX10_account_94 : decode cX10_account 94 = .ok (.aload_n 0, 1) := by decide +kernel
theorem dX10_account_95 : decode cX10_account 95 = .ok (.iconst 5, 1) := by decide +kernel
theorem dX10_account_96 : decode cX10_account 96 = .ok (.invokevirtual 301, 3) := by decide +kernel
theorem dX10_account_99 : decode cX10_account 99 = .ok (.ireturn, 1) := by decide +kernel
theorem dX10_account_100 : decode cX10_account 100 = .ok (.aload_n 0, 1) := by decide +kernel
theorem dX10_account_101 : decode cX10_account 101 = .ok (.getfield 48, 3) := by decide +kernel
theorem dX10_account_104 : decode cX10_account 104 = .ok (.invokevirtual 304, 3) := by decide +kernel
theorem dX10_account_107 : decode cX10_account 107 = .ok (.ireturn, 1) := by decide +kernel
theorem dX10_account_108 : decode cX10_account 108 = .ok (.aload_n 0, 1) := by decide +kernel
theorem dX10_account_109 : decode cX10_account 109 = .ok (.getfield 48, 3) := by decide +kernel
theorem dX10_account_112 : decode cX10_account 112 = .ok (.invokevirtual 307, 3) := by decide +kernel
theorem dX10_account_115 : decode cX10_account 115 = .ok (.ireturn, 1) := by decide +kernel
theorem dX10_account_116 : decode cX10_account 116 = .ok (.aload_n 0, 1) := by decide +kernel
theorem dX10_account_117 : decode cX10_account 117 = .ok (.getfield 48, 3) := by decide +kernel
theorem dX10_account_120 : decode cX10_account 120 = .ok (.getfield 310, 3) := by decide +kernel
theorem dX10_account_123 : decode cX10_account 123 = .ok (.ireturn, 1) := by decide +kernel
theorem dX10_account_124 : decode cX10_account 124 = .ok (.aload_n 0, 1) := by decide +kernel
theorem dX10_account_125 : decode cX10_account 125 = .ok (.getfield 48, 3) := by decide +kernel
theorem dX10_account_128 : decode cX10_account 128 = .ok (.getfield 313, 3) := by decide +kernel
theorem dX10_account_131 : decode cX10_account 131 = .ok (.ireturn, 1) := by decide +kernel
theorem dX10_account_132 : decode cX10_account 132 = .ok (.aload_n 0, 1) := by decide +kernel
theorem dX10_account_133 : decode cX10_account 133 = .ok (.invokevirtual 316, 3) := by decide +kernel
theorem dX10_account_136 : decode cX10_account 136 = .ok (.ireturn, 1) := by decide +kernel
theorem dX10_account_137 : decode cX10_account 137 = .ok (.aload_n 0, 1) := by decide +kernel
theorem dX10_account_138 : decode cX10_account 138 = .ok (.getfield 12, 3) := by decide +kernel
theorem dX10_account_141 : decode cX10_account 141 = .ok (.invokevirtual 236, 3) := by decide +kernel
theorem dX10_account_144 : decode cX10_account 144 = .ok (.ireturn, 1) := by decide +kernel
theorem dX10_account_145 : decode cX10_account 145 = .ok (.aload_n 0, 1) := by decide +kernel
theorem dX10_account_146 : decode cX10_account 146 = .ok (.getfield 61, 3) := by decide +kernel
theorem dX10_account_149 : decode cX10_account 149 = .ok (.getfield 319, 3) := by decide +kernel
theorem dX10_account_152 : decode cX10_account 152 = .ok (.ireturn, 1) := by decide +kernel
theorem dX10_account_153 : decode cX10_account 153 = .ok (.aload_n 0, 1) := by decide +kernel
theorem dX10_account_154 : decode cX10_account 154 = .ok (.bipush 10, 2) := by decide +kernel
theorem dX10_account_156 : decode cX10_account 156 = .ok (.invokevirtual 301, 3) := by decide +kernel
theorem dX10_account_159 : decode cX10_account 159 = .ok (.ireturn, 1) := by decide +kernel
theorem dX10_account_160 : decode cX10_account 160 = .ok (.new 76, 3) := by decide +kernel
theorem dX10_account_163 : decode cX10_account 163 = .ok (.dup, 1) := by decide +kernel
theorem dX10_account_164 : decode cX10_account 164 = .ok (.ldc_w 320, 3) := by decide +kernel
theorem dX10_account_167 : decode cX10_account 167 = .ok (.invokespecial 80, 3) := by decide +kernel
theorem dX10_account_170 : decode cX10_account 170 = .ok (.athrow, 1) := by decide +kernel
theorem dX10_meanSize_0 : decode cX10_meanSize 0 = .ok (.iconst 0, 1) := by decide +kernel
theorem dX10_meanSize_1 : decode cX10_meanSize 1 = .ok (.istore_n 1, 1) := by decide +kernel
theorem dX10_meanSize_2 : decode cX10_meanSize 2 = .ok (.iconst 0, 1) := by decide +kernel
theorem dX10_meanSize_3 : decode cX10_meanSize 3 = .ok (.istore_n 2, 1) := by decide +kernel
theorem dX10_meanSize_4 : decode cX10_meanSize 4 = .ok (.iconst 0, 1) := by decide +kernel
theorem dX10_meanSize_5 : decode cX10_meanSize 5 = .ok (.istore_n 3, 1) := by decide +kernel
theorem dX10_meanSize_6 : decode cX10_meanSize 6 = .ok (.iload_n 3, 1) := by decide +kernel
theorem dX10_meanSize_7 : decode cX10_meanSize 7 = .ok (.aload_n 0, 1) := by decide +kernel
theorem dX10_meanSize_8 : decode cX10_meanSize 8 = .ok (.getfield 48, 3) := by decide +kernel
theorem dX10_meanSize_11 : decode cX10_meanSize 11 = .ok (.getfield 83, 3) := by decide +kernel
theorem dX10_meanSize_14 : decode cX10_meanSize 14 = .ok (.if_icmp .ge 41, 3) := by decide +kernel
theorem dX10_meanSize_17 : decode cX10_meanSize 17 = .ok (.aload_n 0, 1) := by decide +kernel
theorem dX10_meanSize_18 : decode cX10_meanSize 18 = .ok (.aload_n 0, 1) := by decide +kernel
theorem dX10_meanSize_19 : decode cX10_meanSize 19 = .ok (.getfield 48, 3) := by decide +kernel
theorem dX10_meanSize_22 : decode cX10_meanSize 22 = .ok (.iload_n 3, 1) := by decide +kernel
theorem dX10_meanSize_23 : decode cX10_meanSize 23 = .ok (.invokevirtual 210, 3) := by decide +kernel
theorem dX10_meanSize_26 : decode cX10_meanSize 26 = .ok (.aload_n 0, 1) := by decide +kernel
theorem dX10_meanSize_27 : decode cX10_meanSize 27 = .ok (.getfield 38, 3) := by decide +kernel
theorem dX10_meanSize_30 : decode cX10_meanSize 30 = .ok (.invokevirtual 213, 3) := by decide +kernel
theorem dX10_meanSize_33 : decode cX10_meanSize 33 = .ok (.ifCond .eq 16, 3) := by decide +kernel
theorem dX10_meanSize_36 : decode cX10_meanSize 36 = .ok (.iload_n 1, 1) := by decide +kernel
theorem dX10_meanSize_37 : decode cX10_meanSize 37 = .ok (.aload_n 0, 1) := by decide +kernel
theorem dX10_meanSize_38 : decode cX10_meanSize 38 = .ok (.getfield 38, 3) := by decide +kernel
theorem dX10_meanSize_41 : decode cX10_meanSize 41 = .ok (.getfield 224, 3) := by decide +kernel
theorem dX10_meanSize_44 : decode cX10_meanSize 44 = .ok (.iadd, 1) := by decide +kernel
theorem dX10_meanSize_45 : decode cX10_meanSize 45 = .ok (.istore_n 1, 1) := by decide +kernel
theorem dX10_meanSize_46 : decode cX10_meanSize 46 = .ok (.iinc 2 1, 3) := by decide +kernel
theorem dX10_meanSize_49 : decode cX10_meanSize 49 = .ok (.iinc 3 1, 3) := by decide +kernel
theorem dX10_meanSize_52 : decode cX10_meanSize 52 = .ok (.goto (-46), 3) := by decide +kernel
theorem dX10_meanSize_55 : decode cX10_meanSize 55 = .ok (.iload_n 2, 1) := by decide +kernel
theorem dX10_meanSize_56 : decode cX10_meanSize 56 = .ok (.ifCond .ne 13, 3) := by decide +kernel
theorem dX10_meanSize_59 : decode cX10_meanSize 59 = .ok (.new 322, 3) := by decide +kernel
theorem dX10_meanSize_62 : decode cX10_meanSize 62 = .ok (.dup, 1) := by decide +kernel
theorem dX10_meanSize_63 : decode cX10_meanSize 63 = .ok (.ldc 227, 2) := by decide +kernel
theorem dX10_meanSize_65 : decode cX10_meanSize 65 = .ok (.invokespecial 324, 3) := by decide +kernel
theorem dX10_meanSize_68 : decode cX10_meanSize 68 = .ok (.athrow, 1) := by decide +kernel
theorem dX10_meanSize_69 : decode cX10_meanSize 69 = .ok (.iload_n 1, 1) := by decide +kernel
theorem dX10_meanSize_70 : decode cX10_meanSize 70 = .ok (.i2d, 1) := by decide +kernel
theorem dX10_meanSize_71 : decode cX10_meanSize 71 = .ok (.iload_n 2, 1) := by decide +kernel
theorem dX10_meanSize_72 : decode cX10_meanSize 72 = .ok (.i2d, 1) := by decide +kernel
theorem dX10_meanSize_73 : decode cX10_meanSize 73 = .ok (.ddiv, 1) := by decide +kernel
theorem dX10_meanSize_74 : decode cX10_meanSize 74 = .ok (.dreturn, 1) := by decide +kernel
theorem dX10_typedShare_0 : decode cX10_typedShare 0 = .ok (.aload_n 0, 1) := by decide +kernel
theorem dX10_typedShare_1 : decode cX10_typedShare 1 = .ok (.getfield 48, 3) := by decide +kernel
theorem dX10_typedShare_4 : decode cX10_typedShare 4 = .ok (.getfield 83, 3) := by decide +kernel
theorem dX10_typedShare_7 : decode cX10_typedShare 7 = .ok (.ifCond .ne 14, 3) := by decide +kernel
theorem dX10_typedShare_10 : decode cX10_typedShare 10 = .ok (.new 322, 3) := by decide +kernel
theorem dX10_typedShare_13 : decode cX10_typedShare 13 = .ok (.dup, 1) := by decide +kernel
theorem dX10_typedShare_14 : decode cX10_typedShare 14 = .ok (.ldc_w 325, 3) := by decide +kernel
theorem dX10_typedShare_17 : decode cX10_typedShare 17 = .ok (.invokespecial 324, 3) := by decide +kernel
theorem dX10_typedShare_20 : decode cX10_typedShare 20 = .ok (.athrow, 1) := by decide +kernel
theorem dX10_typedShare_21 : decode cX10_typedShare 21 = .ok (.aload_n 0, 1) := by decide +kernel
theorem dX10_typedShare_22 : decode cX10_typedShare 22 = .ok (.iconst 0, 1) := by decide +kernel
theorem dX10_typedShare_23 : decode cX10_typedShare 23 = .ok (.invokevirtual 301, 3) := by decide +kernel
theorem dX10_typedShare_26 : decode cX10_typedShare 26 = .ok (.i2f, 1) := by decide +kernel
theorem dX10_typedShare_27 : decode cX10_typedShare 27 = .ok (.aload_n 0, 1) := by decide +kernel
theorem dX10_typedShare_28 : decode cX10_typedShare 28 = .ok (.getfield 48, 3) := by decide +kernel
theorem dX10_typedShare_31 : decode cX10_typedShare 31 = .ok (.getfield 83, 3) := by decide +kernel
theorem dX10_typedShare_34 : decode cX10_typedShare 34 = .ok (.i2f, 1) := by decide +kernel
theorem dX10_typedShare_35 : decode cX10_typedShare 35 = .ok (.fdiv, 1) := by decide +kernel
theorem dX10_typedShare_36 : decode cX10_typedShare 36 = .ok (.freturn, 1) := by decide +kernel
theorem dX10_undo_0 : decode cX10_undo 0 = .ok (.aload_n 0, 1) := by decide +kernel
theorem dX10_undo_1 : decode cX10_undo 1 = .ok (.getfield 61, 3) := by decide +kernel
theorem dX10_undo_4 : decode cX10_undo 4 = .ok (.getfield 319, 3) := by decide +kernel
theorem dX10_undo_7 : decode cX10_undo 7 = .ok (.ifCond .ne 14, 3) := by decide +kernel
theorem dX10_undo_10 : decode cX10_undo 10 = .ok (.new 184, 3) := by decide +kernel
theorem dX10_undo_13 : decode cX10_undo 13 = .ok (.dup, 1) := by decide +kernel
theorem dX10_undo_14 : decode cX10_undo 14 = .ok (.ldc_w 327, 3) := by decide +kernel
theorem dX10_undo_17 : decode cX10_undo 17 = .ok (.invokespecial 188, 3) := by decide +kernel
theorem dX10_undo_20 : decode cX10_undo 20 = .ok (.athrow, 1) := by decide +kernel
theorem dX10_undo_21 : decode cX10_undo 21 = .ok (.aload_n 0, 1) := by decide +kernel
theorem dX10_undo_22 : decode cX10_undo 22 = .ok (.getfield 61, 3) := by decide +kernel
theorem dX10_undo_25 : decode cX10_undo 25 = .ok (.aload_n 0, 1) := by decide +kernel
theorem dX10_undo_26 : decode cX10_undo 26 = .ok (.getfield 48, 3) := by decide +kernel
theorem dX10_undo_29 : decode cX10_undo 29 = .ok (.invokevirtual 329, 3) := by decide +kernel
theorem dX10_undo_32 : decode cX10_undo 32 = .ok (.aload_n 0, 1) := by decide +kernel
theorem dX10_undo_33 : decode cX10_undo 33 = .ok (.getfield 61, 3) := by decide +kernel
theorem dX10_undo_36 : decode cX10_undo 36 = .ok (.getfield 319, 3) := by decide +kernel
theorem dX10_undo_39 : decode cX10_undo 39 = .ok (.ireturn, 1) := by decide +kernel
theorem dX10_save_0 : decode cX10_save 0 = .ok (.aload_n 0, 1) := by decide +kernel
theorem dX10_save_1 : decode cX10_save 1 = .ok (.getfield 55, 3) := by decide +kernel
theorem dX10_save_4 : decode cX10_save 4 = .ok (.aload_n 0, 1) := by decide +kernel
theorem dX10_save_5 : decode cX10_save 5 = .ok (.getfield 48, 3) := by decide +kernel
theorem dX10_save_8 : decode cX10_save 8 = .ok (.invokevirtual 95, 3) := by decide +kernel
theorem dX10_save_11 : decode cX10_save 11 = .ok (.aload_n 0, 1) := by decide +kernel
theorem dX10_save_12 : decode cX10_save 12 = .ok (.iconst 1, 1) := by decide +kernel
theorem dX10_save_13 : decode cX10_save 13 = .ok (.putfield 332, 3) := by decide +kernel
theorem dX10_save_16 : decode cX10_save 16 = .ok (.aload_n 0, 1) := by decide +kernel
theorem dX10_save_17 : decode cX10_save 17 = .ok (.getfield 48, 3) := by decide +kernel
theorem dX10_save_20 : decode cX10_save 20 = .ok (.getfield 83, 3) := by decide +kernel
theorem dX10_save_23 : decode cX10_save 23 = .ok (.ireturn, 1) := by decide +kernel
theorem dX10_restore_0 : decode cX10_restore 0 = .ok (.aload_n 0, 1) := by decide +kernel
theorem dX10_restore_1 : decode cX10_restore 1 = .ok (.getfield 332, 3) := by decide +kernel
theorem dX10_restore_4 : decode cX10_restore 4 = .ok (.ifCond .ne 14, 3) := by decide +kernel
theorem dX10_restore_7 : decode cX10_restore 7 = .ok (.new 184, 3) := by decide +kernel
theorem dX10_restore_10 : decode cX10_restore 10 = .ok (.dup, 1) := by decide +kernel
theorem dX10_restore_11 : decode cX10_restore 11 = .ok (.ldc_w 336, 3) := by decide +kernel
theorem dX10_restore_14 : decode cX10_restore 14 = .ok (.invokespecial 188, 3) := by decide +kernel
theorem dX10_restore_17 : decode cX10_restore 17 = .ok (.athrow, 1) := by decide +kernel
theorem dX10_restore_18 : decode cX10_restore 18 = .ok (.aload_n 0, 1) := by decide +kernel
theorem dX10_restore_19 : decode cX10_restore 19 = .ok (.getfield 48, 3) := by decide +kernel
theorem dX10_restore_22 : decode cX10_restore 22 = .ok (.aload_n 0, 1) := by decide +kernel
theorem dX10_restore_23 : decode cX10_restore 23 = .ok (.getfield 55, 3) := by decide +kernel
theorem dX10_restore_26 : decode cX10_restore 26 = .ok (.invokevirtual 95, 3) := by decide +kernel
theorem dX10_restore_29 : decode cX10_restore 29 = .ok (.aload_n 0, 1) := by decide +kernel
theorem dX10_restore_30 : decode cX10_restore 30 = .ok (.getfield 61, 3) := by decide +kernel
theorem dX10_restore_33 : decode cX10_restore 33 = .ok (.invokevirtual 338, 3) := by decide +kernel
theorem dX10_restore_36 : decode cX10_restore 36 = .ok (.aload_n 0, 1) := by decide +kernel
theorem dX10_restore_37 : decode cX10_restore 37 = .ok (.getfield 48, 3) := by decide +kernel
theorem dX10_restore_40 : decode cX10_restore 40 = .ok (.getfield 83, 3) := by decide +kernel
theorem dX10_restore_43 : decode cX10_restore 43 = .ok (.ireturn, 1) := by decide +kernel
theorem dX10_dropLesson_0 : decode cX10_dropLesson 0 = .ok (.aload_n 0, 1) := by decide +kernel
theorem dX10_dropLesson_1 : decode cX10_dropLesson 1 = .ok (.getfield 48, 3) := by decide +kernel
theorem dX10_dropLesson_4 : decode cX10_dropLesson 4 = .ok (.iload_n 1, 1) := by decide +kernel
theorem dX10_dropLesson_5 : decode cX10_dropLesson 5 = .ok (.invokevirtual 210, 3) := by decide +kernel
theorem dX10_dropLesson_8 : decode cX10_dropLesson 8 = .ok (.astore_n 2, 1) := by decide +kernel
theorem dX10_dropLesson_9 : decode cX10_dropLesson 9 = .ok (.aload_n 2, 1) := by decide +kernel
theorem dX10_dropLesson_10 : decode cX10_dropLesson 10 = .ok (.ifnonnull 10, 3) := by decide +kernel
theorem dX10_dropLesson_13 : decode cX10_dropLesson 13 = .ok (.aload_n 0, 1) := by decide +kernel
theorem dX10_dropLesson_14 : decode cX10_dropLesson 14 = .ok (.iconst 2, 1) := by decide +kernel
theorem dX10_dropLesson_15 : decode cX10_dropLesson 15 = .ok (.iload_n 1, 1) := by decide +kernel
theorem dX10_dropLesson_16 : decode cX10_dropLesson 16 = .ok (.invokevirtual 86, 3) := by decide +kernel
theorem dX10_dropLesson_19 : decode cX10_dropLesson 19 = .ok (.ireturn, 1) := by decide +kernel
theorem dX10_dropLesson_20 : decode cX10_dropLesson 20 = .ok (.aload_n 0, 1) := by decide +kernel
theorem dX10_dropLesson_21 : decode cX10_dropLesson 21 = .ok (.getfield 48, 3) := by decide +kernel
theorem dX10_dropLesson_24 : decode cX10_dropLesson 24 = .ok (.iload_n 1, 1) := by decide +kernel
theorem dX10_dropLesson_25 : decode cX10_dropLesson 25 = .ok (.invokevirtual 341, 3) := by decide +kernel
theorem dX10_dropLesson_28 : decode cX10_dropLesson 28 = .ok (.aload_n 2, 1) := by decide +kernel
theorem dX10_dropLesson_29 : decode cX10_dropLesson 29 = .ok (.getfield 130, 3) := by decide +kernel
theorem dX10_dropLesson_32 : decode cX10_dropLesson 32 = .ok (.ireturn, 1) := by decide +kernel
theorem dX10_keepType_0 : decode cX10_keepType 0 = .ok (.aload_n 0, 1) := by decide +kernel
theorem dX10_keepType_1 : decode cX10_keepType 1 = .ok (.getfield 48, 3) := by decide +kernel
theorem dX10_keepType_4 : decode cX10_keepType 4 = .ok (.iload_n 1, 1) := by decide +kernel
theorem dX10_keepType_5 : decode cX10_keepType 5 = .ok (.invokevirtual 210, 3) := by decide +kernel
theorem dX10_keepType_8 : decode cX10_keepType 8 = .ok (.astore_n 3, 1) := by decide +kernel
theorem dX10_keepType_9 : decode cX10_keepType 9 = .ok (.aload_n 3, 1) := by decide +kernel
theorem dX10_keepType_10 : decode cX10_keepType 10 = .ok (.ifnonnull 10, 3) := by decide +kernel
theorem dX10_keepType_13 : decode cX10_keepType 13 = .ok (.aload_n 0, 1) := by decide +kernel
theorem dX10_keepType_14 : decode cX10_keepType 14 = .ok (.iconst 2, 1) := by decide +kernel
theorem dX10_keepType_15 : decode cX10_keepType 15 = .ok (.iload_n 1, 1) := by decide +kernel
theorem dX10_keepType_16 : decode cX10_keepType 16 = .ok (.invokevirtual 86, 3) := by decide +kernel
theorem dX10_keepType_19 : decode cX10_keepType 19 = .ok (.ireturn, 1) := by decide +kernel
theorem dX10_keepType_20 : decode cX10_keepType 20 = .ok (.iload_n 2, 1) := by decide +kernel
theorem dX10_keepType_21 : decode cX10_keepType 21 = .ok (.invokestatic 344, 3) := by decide +kernel
theorem dX10_keepType_24 : decode cX10_keepType 24 = .ok (.ifCond .ne 11, 3) := by decide +kernel
theorem dX10_keepType_27 : decode cX10_keepType 27 = .ok (.aload_n 0, 1) := by decide +kernel
theorem dX10_keepType_28 : decode cX10_keepType 28 = .ok (.bipush 8, 2) := by decide +kernel
theorem dX10_keepType_30 : decode cX10_keepType 30 = .ok (.iload_n 2, 1) := by decide +kernel
theorem dX10_keepType_31 : decode cX10_keepType 31 = .ok (.invokevirtual 86, 3) := by decide +kernel
theorem dX10_keepType_34 : decode cX10_keepType 34 = .ok (.ireturn, 1) := by decide +kernel
theorem dX10_keepType_35 : decode cX10_keepType 35 = .ok (.aload_n 0, 1) := by decide +kernel
theorem dX10_keepType_36 : decode cX10_keepType 36 = .ok (.getfield 29, 3) := by decide +kernel
theorem dX10_keepType_39 : decode cX10_keepType 39 = .ok (.aload_n 3, 1) := by decide +kernel
theorem dX10_keepType_40 : decode cX10_keepType 40 = .ok (.aload_n 0, 1) := by decide +kernel
theorem dX10_keepType_41 : decode cX10_keepType 41 = .ok (.getfield 48, 3) := by decide +kernel
theorem dX10_keepType_44 : decode cX10_keepType 44 = .ok (.iconst 0, 1) := by decide +kernel
theorem dX10_keepType_45 : decode cX10_keepType 45 = .ok (.invokevirtual 154, 3) := by decide +kernel
theorem dX10_keepType_48 : decode cX10_keepType 48 = .ok (.ifCond .ne 22, 3) := by decide +kernel
theorem dX10_keepType_51 : decode cX10_keepType 51 = .ok (.aload_n 0, 1) := by decide +kernel
theorem dX10_keepType_52 : decode cX10_keepType 52 = .ok (.aload_n 0, 1) := by decide +kernel
theorem dX10_keepType_53 : decode cX10_keepType 53 = .ok (.getfield 29, 3) := by decide +kernel
theorem dX10_keepType_56 : decode cX10_keepType 56 = .ok (.getfield 162, 3) := by decide +kernel
theorem dX10_keepType_59 : decode cX10_keepType 59 = .ok (.aload_n 0, 1) := by decide +kernel
theorem dX10_keepType_60 : decode cX10_keepType 60 = .ok (.getfield 29, 3) := by decide +kernel
theorem dX10_keepType_63 : decode cX10_keepType 63 = .ok (.getfield 165, 3) := by decide +kernel
theorem dX10_keepType_66 : decode cX10_keepType 66 = .ok (.invokevirtual 86, 3) := by decide +kernel
theorem dX10_keepType_69 : decode cX10_keepType 69 = .ok (.ireturn, 1) := by decide +kernel
theorem dX10_keepType_70 : decode cX10_keepType 70 = .ok (.aload_n 0, 1) := by decide +kernel
theorem dX10_keepType_71 : decode cX10_keepType 71 = .ok (.getfield 29, 3) := by decide +kernel
theorem dX10_keepType_74 : decode cX10_keepType 74 = .ok (.aload_n 0, 1) := by decide +kernel
theorem dX10_keepType_75 : decode cX10_keepType 75 = .ok (.getfield 38, 3) := by decide +kernel
theorem dX10_keepType_78 : decode cX10_keepType 78 = .ok (.invokevirtual 189, 3) := by decide +kernel
theorem dX10_keepType_81 : decode cX10_keepType 81 = .ok (.aload_n 0, 1) := by decide +kernel
theorem dX10_keepType_82 : decode cX10_keepType 82 = .ok (.getfield 38, 3) := by decide +kernel
theorem dX10_keepType_85 : decode cX10_keepType 85 = .ok (.getfield 224, 3) := by decide +kernel
theorem dX10_keepType_88 : decode cX10_keepType 88 = .ok (.bipush 24, 2) := by decide +kernel
theorem dX10_keepType_90 : decode cX10_keepType 90 = .ok (.if_icmp .le 17, 3) := by decide +kernel
theorem dX10_keepType_93 : decode cX10_keepType 93 = .ok (.aload_n 0, 1) := by decide +kernel
theorem dX10_keepType_94 : decode cX10_keepType 94 = .ok (.bipush 7, 2) := by decide +kernel
theorem dX10_keepType_96 : decode cX10_keepType 96 = .ok (.aload_n 0, 1) := by decide +kernel
theorem dX10_keepType_97 : decode cX10_keepType 97 = .ok (.getfield 38, 3) := by decide +kernel
theorem dX10_keepType_100 : decode cX10_keepType 100 = .ok (.getfield 224, 3) := by decide +kernel
theorem dX10_keepType_103 : decode cX10_keepType 103 = .ok (.invokevirtual 86, 3) := by decide +kernel
theorem dX10_keepType_106 : decode cX10_keepType 106 = .ok (.ireturn, 1) := by decide +kernel
theorem dX10_keepType_107 : decode cX10_keepType 107 = .ok (.aload_n 0, 1) := by decide +kernel
theorem dX10_keepType_108 : decode cX10_keepType 108 = .ok (.getfield 48, 3) := by decide +kernel
theorem dX10_keepType_111 : decode cX10_keepType 111 = .ok (.iload_n 2, 1) := by decide +kernel
theorem dX10_keepType_112 : decode cX10_keepType 112 = .ok (.aload_n 0, 1) := by decide +kernel
theorem dX10_keepType_113 : decode cX10_keepType 113 = .ok (.getfield 38, 3) := by decide +kernel
theorem dX10_keepType_116 : decode cX10_keepType 116 = .ok (.invokevirtual 348, 3) := by decide +kernel
theorem dX10_keepType_119 : decode cX10_keepType 119 = .ok (.invokevirtual 352, 3) := by decide +kernel
theorem dX10_keepType_122 : decode cX10_keepType 122 = .ok (.aload_n 0, 1) := by decide +kernel
theorem dX10_keepType_123 : decode cX10_keepType 123 = .ok (.getfield 38, 3) := by decide +kernel
theorem dX10_keepType_126 : decode cX10_keepType 126 = .ok (.iconst 2, 1) := by decide +kernel
theorem dX10_keepType_127 : decode cX10_keepType 127 = .ok (.invokevirtual 181, 3) := by decide +kernel
theorem dX10_keepType_130 : decode cX10_keepType 130 = .ok (.ireturn, 1) := by decide +kernel
theorem dX10_unkeepType_0 : decode cX10_unkeepType 0 = .ok (.iload_n 1, 1) := by decide +kernel
theorem dX10_unkeepType_1 : decode cX10_unkeepType 1 = .ok (.invokestatic 344, 3) := by decide +kernel
theorem dX10_unkeepType_4 : decode cX10_unkeepType 4 = .ok (.ifCond .ne 11, 3) := by decide +kernel
theorem dX10_unkeepType_7 : decode cX10_unkeepType 7 = .ok (.aload_n 0, 1) := by decide +kernel
theorem dX10_unkeepType_8 : decode cX10_unkeepType 8 = .ok (.bipush 8, 2) := by decide +kernel
theorem dX10_unkeepType_10 : decode cX10_unkeepType 10 = .ok (.iload_n 1, 1) := by decide +kernel
theorem dX10_unkeepType_11 : decode cX10_unkeepType 11 = .ok (.invokevirtual 86, 3) := by decide +kernel
theorem dX10_unkeepType_14 : decode cX10_unkeepType 14 = .ok (.ireturn, 1) := by decide +kernel
theorem dX10_unkeepType_15 : decode cX10_unkeepType 15 = .ok (.aload_n 0, 1) := by decide +kernel
theorem dX10_unkeepType_16 : decode cX10_unkeepType 16 = .ok (.getfield 48, 3) := by decide +kernel
theorem dX10_unkeepType_19 : decode cX10_unkeepType 19 = .ok (.iload_n 1, 1) := by decide +kernel
theorem dX10_unkeepType_20 : decode cX10_unkeepType 20 = .ok (.invokevirtual 220, 3) := by decide +kernel
theorem dX10_unkeepType_23 : decode cX10_unkeepType 23 = .ok (.astore_n 2, 1) := by decide +kernel
theorem dX10_unkeepType_24 : decode cX10_unkeepType 24 = .ok (.aload_n 2, 1) := by decide +kernel
theorem dX10_unkeepType_25 : decode cX10_unkeepType 25 = .ok (.ifnonnull 11, 3) := by decide +kernel
theorem dX10_unkeepType_28 : decode cX10_unkeepType 28 = .ok (.aload_n 0, 1) := by decide +kernel
theorem dX10_unkeepType_29 : decode cX10_unkeepType 29 = .ok (.bipush 6, 2) := by decide +kernel
theorem dX10_unkeepType_31 : decode cX10_unkeepType 31 = .ok (.iload_n 1, 1) := by decide +kernel
theorem dX10_unkeepType_32 : decode cX10_unkeepType 32 = .ok (.invokevirtual 86, 3) := by decide +kernel
theorem dX10_unkeepType_35 : decode cX10_unkeepType 35 = .ok (.ireturn, 1) := by decide +kernel
theorem dX10_unkeepType_36 : decode cX10_unkeepType 36 = .ok (.aload_n 0, 1) := by decide +kernel
theorem dX10_unkeepType_37 : decode cX10_unkeepType 37 = .ok (.getfield 48, 3) := by decide +kernel
theorem dX10_unkeepType_40 : decode cX10_unkeepType 40 = .ok (.iload_n 1, 1) := by decide +kernel
theorem dX10_unkeepType_41 : decode cX10_unkeepType 41 = .ok (.invokevirtual 355, 3) := by decide +kernel
theorem dX10_unkeepType_44 : decode cX10_unkeepType 44 = .ok (.aload_n 2, 1) := by decide +kernel
theorem dX10_unkeepType_45 : decode cX10_unkeepType 45 = .ok (.getfield 224, 3) := by decide +kernel
theorem dX10_unkeepType_48 : decode cX10_unkeepType 48 = .ok (.ireturn, 1) := by decide +kernel
theorem dX10_refuse_0 : decode cX10_refuse 0 = .ok (.aload_n 0, 1) := by decide +kernel
theorem dX10_refuse_1 : decode cX10_refuse 1 = .ok (.new 258, 3) := by decide +kernel
theorem dX10_refuse_4 : decode cX10_refuse 4 = .ok (.dup, 1) := by decide +kernel
theorem dX10_refuse_5 : decode cX10_refuse 5 = .ok (.iload_n 1, 1) := by decide +kernel
theorem dX10_refuse_6 : decode cX10_refuse 6 = .ok (.iload_n 2, 1) := by decide +kernel
theorem dX10_refuse_7 : decode cX10_refuse 7 = .ok (.aconst_null, 1) := by decide +kernel
theorem dX10_refuse_8 : decode cX10_refuse 8 = .ok (.invokespecial 264, 3) := by decide +kernel
theorem dX10_refuse_11 : decode cX10_refuse 11 = .ok (.putfield 260, 3) := by decide +kernel
theorem dX10_refuse_14 : decode cX10_refuse 14 = .ok (.iconst (-1), 1) := by decide +kernel
theorem dX10_refuse_15 : decode cX10_refuse 15 = .ok (.ireturn, 1) := by decide +kernel
theorem dX10_termOf_0 : decode cX10_termOf 0 = .ok (.aload_n 0, 1) := by decide +kernel
theorem dX10_termOf_1 : decode cX10_termOf 1 = .ok (.getfield 48, 3) := by decide +kernel
theorem dX10_termOf_4 : decode cX10_termOf 4 = .ok (.iload_n 1, 1) := by decide +kernel
theorem dX10_termOf_5 : decode cX10_termOf 5 = .ok (.invokevirtual 210, 3) := by decide +kernel
theorem dX10_termOf_8 : decode cX10_termOf 8 = .ok (.astore_n 2, 1) := by decide +kernel
theorem dX10_termOf_9 : decode cX10_termOf 9 = .ok (.aload_n 2, 1) := by decide +kernel
theorem dX10_termOf_10 : decode cX10_termOf 10 = .ok (.ifnonnull 14, 3) := by decide +kernel
theorem dX10_termOf_13 : decode cX10_termOf 13 = .ok (.new 292, 3) := by decide +kernel
theorem dX10_termOf_16 : decode cX10_termOf 16 = .ok (.dup, 1) := by decide +kernel
theorem dX10_termOf_17 : decode cX10_termOf 17 = .ok (.ldc_w 358, 3) := by decide +kernel
theorem dX10_termOf_20 : decode cX10_termOf 20 = .ok (.invokespecial 296, 3) := by decide +kernel
theorem dX10_termOf_23 : decode cX10_termOf 23 = .ok (.athrow, 1) := by decide +kernel
theorem dX10_termOf_24 : decode cX10_termOf 24 = .ok (.aload_n 2, 1) := by decide +kernel
theorem dX10_termOf_25 : decode cX10_termOf 25 = .ok (.areturn, 1) := by decide +kernel
theorem dX10_termWith_0 : decode cX10_termWith 0 = .ok (.aload_n 0, 1) := by decide +kernel
theorem dX10_termWith_1 : decode cX10_termWith 1 = .ok (.iload_n 1, 1) := by decide +kernel
theorem dX10_termWith_2 : decode cX10_termWith 2 = .ok (.invokevirtual 126, 3) := by decide +kernel
theorem dX10_termWith_5 : decode cX10_termWith 5 = .ok (.astore_n 3, 1) := by decide +kernel
theorem dX10_termWith_6 : decode cX10_termWith 6 = .ok (.aload_n 3, 1) := by decide +kernel
theorem dX10_termWith_7 : decode cX10_termWith 7 = .ok (.iload_n 2, 1) := by decide +kernel
theorem dX10_termWith_8 : decode cX10_termWith 8 = .ok (.invokevirtual 360, 3) := by decide +kernel
theorem dX10_termWith_11 : decode cX10_termWith 11 = .ok (.ifCond .ne 14, 3) := by decide +kernel
theorem dX10_termWith_14 : decode cX10_termWith 14 = .ok (.new 292, 3) := by decide +kernel
theorem dX10_termWith_17 : decode cX10_termWith 17 = .ok (.dup, 1) := by decide +kernel
theorem dX10_termWith_18 : decode cX10_termWith 18 = .ok (.ldc_w 363, 3) := by decide +kernel
theorem dX10_termWith_21 : decode cX10_termWith 21 = .ok (.invokespecial 296, 3) := by decide +kernel
theorem dX10_termWith_24 : decode cX10_termWith 24 = .ok (.athrow, 1) := by decide +kernel
theorem dX10_termWith_25 : decode cX10_termWith 25 = .ok (.aload_n 3, 1) := by decide +kernel
theorem dX10_termWith_26 : decode cX10_termWith 26 = .ok (.areturn, 1) := by decide +kernel
theorem dX10_needMeasure_0 : decode cX10_needMeasure 0 = .ok (.iload_n 0, 1) := by decide +kernel
theorem dX10_needMeasure_1 : decode cX10_needMeasure 1 = .ok (.ifCond .lt 8, 3) := by decide +kernel
theorem dX10_needMeasure_4 : decode cX10_needMeasure 4 = .ok (.iload_n 0, 1) := by decide +kernel
theorem dX10_needMeasure_5 : decode cX10_needMeasure 5 = .ok (.iconst 4, 1) := by decide +kernel
theorem dX10_needMeasure_6 : decode cX10_needMeasure 6 = .ok (.if_icmp .le 14, 3) := by decide +kernel
theorem dX10_needMeasure_9 : decode cX10_needMeasure 9 = .ok (.new 76, 3) := by decide +kernel
theorem dX10_needMeasure_12 : decode cX10_needMeasure 12 = .ok (.dup, 1) := by decide +kernel
theorem dX10_needMeasure_13 : decode cX10_needMeasure 13 = .ok (.ldc_w 365, 3) := by decide +kernel
theorem dX10_needMeasure_16 : decode cX10_needMeasure 16 = .ok (.invokespecial 80, 3) := by decide +kernel
theorem dX10_needMeasure_19 : decode cX10_needMeasure 19 = .ok (.athrow, 1) := by decide +kernel
theorem dX10_needMeasure_20 : decode cX10_needMeasure 20 = .ok (.return_, 1) := by decide +kernel
theorem dX10_needCapital_0 : decode cX10_needCapital 0 = .ok (.iload_n 0, 1) := by decide +kernel
theorem dX10_needCapital_1 : decode cX10_needCapital 1 = .ok (.invokestatic 344, 3) := by decide +kernel
theorem dX10_needCapital_4 : decode cX10_needCapital 4 = .ok (.ifCond .ne 14, 3) := by decide +kernel
theorem dX10_needCapital_7 : decode cX10_needCapital 7 = .ok (.new 292, 3) := by decide +kernel
theorem dX10_needCapital_10 : decode cX10_needCapital 10 = .ok (.dup, 1) := by decide +kernel
theorem dX10_needCapital_11 : decode cX10_needCapital 11 = .ok (.ldc_w 367, 3) := by decide +kernel
theorem dX10_needCapital_14 : decode cX10_needCapital 14 = .ok (.invokespecial 296, 3) := by decide +kernel
theorem dX10_needCapital_17 : decode cX10_needCapital 17 = .ok (.athrow, 1) := by decide +kernel
theorem dX10_needCapital_18 : decode cX10_needCapital 18 = .ok (.return_, 1) := by decide +kernel
theorem dX10_needType_0 : decode cX10_needType 0 = .ok (.aload_n 0, 1) := by decide +kernel
theorem dX10_needType_1 : decode cX10_needType 1 = .ok (.getfield 29, 3) := by decide +kernel
theorem dX10_needType_4 : decode cX10_needType 4 = .ok (.aload_n 1, 1) := by decide +kernel
theorem dX10_needType_5 : decode cX10_needType 5 = .ok (.aload_n 0, 1) := by decide +kernel
theorem dX10_needType_6 : decode cX10_needType 6 = .ok (.getfield 48, 3) := by decide +kernel
theorem dX10_needType_9 : decode cX10_needType 9 = .ok (.iconst 0, 1) := by decide +kernel
theorem dX10_needType_10 : decode cX10_needType 10 = .ok (.invokevirtual 154, 3) := by decide +kernel
theorem dX10_needType_13 : decode cX10_needType 13 = .ok (.ifCond .ne 14, 3) := by decide +kernel
theorem dX10_needType_16 : decode cX10_needType 16 = .ok (.new 184, 3) := by decide +kernel
theorem dX10_needType_19 : decode cX10_needType 19 = .ok (.dup, 1) := by decide +kernel
theorem dX10_needType_20 : decode cX10_needType 20 = .ok (.ldc_w 369, 3) := by decide +kernel
theorem dX10_needType_23 : decode cX10_needType 23 = .ok (.invokespecial 188, 3) := by decide +kernel
theorem dX10_needType_26 : decode cX10_needType 26 = .ok (.athrow, 1) := by decide +kernel
theorem dX10_needType_27 : decode cX10_needType 27 = .ok (.aload_n 0, 1) := by decide +kernel
theorem dX10_needType_28 : decode cX10_needType 28 = .ok (.getfield 29, 3) := by decide +kernel
theorem dX10_needType_31 : decode cX10_needType 31 = .ok (.aload_n 2, 1) := by decide +kernel
theorem dX10_needType_32 : decode cX10_needType 32 = .ok (.invokevirtual 189, 3) := by decide +kernel
theorem dX10_needType_35 : decode cX10_needType 35 = .ok (.return_, 1) := by decide +kernel
theorem dX10_spells_0 : decode cX10_spells 0 = .ok (.aload_n 1, 1) := by decide +kernel
theorem dX10_spells_1 : decode cX10_spells 1 = .ok (.ifnull 19, 3) := by decide +kernel
theorem dX10_spells_4 : decode cX10_spells 4 = .ok (.aload_n 0, 1) := by decide +kernel
theorem dX10_spells_5 : decode cX10_spells 5 = .ok (.getfield 29, 3) := by decide +kernel
theorem dX10_spells_8 : decode cX10_spells 8 = .ok (.aload_n 1, 1) := by decide +kernel
theorem dX10_spells_9 : decode cX10_spells 9 = .ok (.aload_n 0, 1) := by decide +kernel
theorem dX10_spells_10 : decode cX10_spells 10 = .ok (.getfield 48, 3) := by decide +kernel
theorem dX10_spells_13 : decode cX10_spells 13 = .ok (.iconst 0, 1) := by decide +kernel
theorem dX10_spells_14 : decode cX10_spells 14 = .ok (.invokevirtual 154, 3) := by decide +kernel
theorem dX10_spells_17 : decode cX10_spells 17 = .ok (.ifCond .ne 5, 3) := by decide +kernel
theorem dX10_spells_20 : decode cX10_spells 20 = .ok (.iconst 0, 1) := by decide +kernel
theorem dX10_spells_21 : decode cX10_spells 21 = .ok (.ireturn, 1) := by decide +kernel
theorem dX10_spells_22 : decode cX10_spells 22 = .ok (.aload_n 0, 1) := by decide +kernel
theorem dX10_spells_23 : decode cX10_spells 23 = .ok (.getfield 29, 3) := by decide +kernel
theorem dX10_spells_26 : decode cX10_spells 26 = .ok (.aload_n 2, 1) := by decide +kernel
theorem dX10_spells_27 : decode cX10_spells 27 = .ok (.invokevirtual 189, 3) := by decide +kernel
theorem dX10_spells_30 : decode cX10_spells 30 = .ok (.iconst 1, 1) := by decide +kernel
theorem dX10_spells_31 : decode cX10_spells 31 = .ok (.ireturn, 1) := by decide +kernel
theorem dX10_writeLine_0 : decode cX10_writeLine 0 = .ok (.aload_n 0, 1) := by decide +kernel
theorem dX10_writeLine_1 : decode cX10_writeLine 1 = .ok (.getfield 16, 3) := by decide +kernel
theorem dX10_writeLine_4 : decode cX10_writeLine 4 = .ok (.iconst 0, 1) := by decide +kernel
theorem dX10_writeLine_5 : decode cX10_writeLine 5 = .ok (.invokevirtual 73, 3) := by decide +kernel
theorem dX10_writeLine_8 : decode cX10_writeLine 8 = .ok (.aload_n 1, 1) := by decide +kernel
theorem dX10_writeLine_9 : decode cX10_writeLine 9 = .ok (.aload_n 0, 1) := by decide +kernel
theorem dX10_writeLine_10 : decode cX10_writeLine 10 = .ok (.getfield 16, 3) := by decide +kernel
theorem dX10_writeLine_13 : decode cX10_writeLine 13 = .ok (.invokevirtual 371, 3) := by decide +kernel
theorem dX10_writeLine_16 : decode cX10_writeLine 16 = .ok (.aload_n 0, 1) := by decide +kernel
theorem dX10_writeLine_17 : decode cX10_writeLine 17 = .ok (.getfield 16, 3) := by decide +kernel
theorem dX10_writeLine_20 : decode cX10_writeLine 20 = .ok (.invokevirtual 236, 3) := by decide +kernel
theorem dX10_writeLine_23 : decode cX10_writeLine 23 = .ok (.ireturn, 1) := by decide +kernel
theorem dX10_lessonsFailing_0 : decode cX10_lessonsFailing 0 = .ok (.iconst 0, 1) := by decide +kernel
theorem dX10_lessonsFailing_1 : decode cX10_lessonsFailing 1 = .ok (.istore_n 2, 1) := by decide +kernel
theorem dX10_lessonsFailing_2 : decode cX10_lessonsFailing 2 = .ok (.iconst 0, 1) := by decide +kernel
theorem dX10_lessonsFailing_3 : decode cX10_lessonsFailing 3 = .ok (.istore_n 3, 1) := by decide +kernel
theorem dX10_lessonsFailing_4 : decode cX10_lessonsFailing 4 = .ok (.iload_n 3, 1) := by decide +kernel
theorem dX10_lessonsFailing_5 : decode cX10_lessonsFailing 5 = .ok (.aload_n 0, 1) := by decide +kernel
theorem dX10_lessonsFailing_6 : decode cX10_lessonsFailing 6 = .ok (.getfield 48, 3) := by decide +kernel
theorem dX10_lessonsFailing_9 : decode cX10_lessonsFailing 9 = .ok (.getfield 83, 3) := by decide +kernel
theorem dX10_lessonsFailing_12 : decode cX10_lessonsFailing 12 = .ok (.if_icmp .ge 53, 3) := by decide +kernel
theorem dX10_lessonsFailing_15 : decode cX10_lessonsFailing 15 = .ok (.aload_n 0, 1) := by decide +kernel
theorem dX10_lessonsFailing_16 : decode cX10_lessonsFailing 16 = .ok (.getfield 48, 3) := by decide +kernel
theorem dX10_lessonsFailing_19 : decode cX10_lessonsFailing 19 = .ok (.iload_n 3, 1) := by decide +kernel
theorem dX10_lessonsFailing_20 : decode cX10_lessonsFailing 20 = .ok (.invokevirtual 210, 3) := by decide +kernel
theorem dX10_lessonsFailing_23 : decode cX10_lessonsFailing 23 = .ok (.astore 4, 2) := by decide +kernel
theorem dX10_lessonsFailing_25 : decode cX10_lessonsFailing 25 = .ok (.aload 4, 2) := by decide +kernel
theorem dX10_lessonsFailing_27 : decode cX10_lessonsFailing 27 = .ok (.ifnull 32, 3) := by decide +kernel
theorem dX10_lessonsFailing_30 : decode cX10_lessonsFailing 30 = .ok (.aload_n 0, 1) := by decide +kernel
theorem dX10_lessonsFailing_31 : decode cX10_lessonsFailing 31 = .ok (.getfield 29, 3) := by decide +kernel
theorem dX10_lessonsFailing_34 : decode cX10_lessonsFailing 34 = .ok (.aload 4, 2) := by decide +kernel
theorem dX10_lessonsFailing_36 : decode cX10_lessonsFailing 36 = .ok (.aload_n 0, 1) := by decide +kernel
theorem dX10_lessonsFailing_37 : decode cX10_lessonsFailing 37 = .ok (.getfield 48, 3) := by decide +kernel
theorem dX10_lessonsFailing_40 : decode cX10_lessonsFailing 40 = .ok (.iconst 0, 1) := by decide +kernel
theorem dX10_lessonsFailing_41 : decode cX10_lessonsFailing 41 = .ok (.invokevirtual 154, 3) := by decide +kernel
theorem dX10_lessonsFailing_44 : decode cX10_lessonsFailing 44 = .ok (.pop, 1) := by decide +kernel
theorem dX10_lessonsFailing_45 : decode cX10_lessonsFailing 45 = .ok (.aload_n 0, 1) := by decide +kernel
theorem dX10_lessonsFailing_46 : decode cX10_lessonsFailing 46 = .ok (.getfield 29, 3) := by decide +kernel
theorem dX10_lessonsFailing_49 : decode cX10_lessonsFailing 49 = .ok (.getfield 162, 3) := by decide +kernel
theorem dX10_lessonsFailing_52 : decode cX10_lessonsFailing 52 = .ok (.iload_n 1, 1) := by decide +kernel
theorem dX10_lessonsFailing_53 : decode cX10_lessonsFailing 53 = .ok (.if_icmp .ne 6, 3) := by decide +kernel
theorem dX10_lessonsFailing_56 : decode cX10_lessonsFailing 56 = .ok (.iinc 2 1, 3) := by decide +kernel
theorem dX10_lessonsFailing_59 : decode cX10_lessonsFailing 59 = .ok (.iinc 3 1, 3) := by decide +kernel
theorem dX10_lessonsFailing_62 : decode cX10_lessonsFailing 62 = .ok (.goto (-58), 3) := by decide +kernel
theorem dX10_lessonsFailing_65 : decode cX10_lessonsFailing 65 = .ok (.iload_n 2, 1) := by decide +kernel
theorem dX10_lessonsFailing_66 : decode cX10_lessonsFailing 66 = .ok (.ireturn, 1) := by decide +kernel
theorem dX10_lessonsWithoutVariables_0 : decode cX10_lessonsWithoutVariables 0 = .ok (.iconst 0, 1) := by decide +kernel
theorem dX10_lessonsWithoutVariables_1 : decode cX10_lessonsWithoutVariables 1 = .ok (.istore_n 1, 1) := by decide +kernel
theorem dX10_lessonsWithoutVariables_2 : decode cX10_lessonsWithoutVariables 2 = .ok (.iconst 0, 1) := by decide +kernel
theorem dX10_lessonsWithoutVariables_3 : decode cX10_lessonsWithoutVariables 3 = .ok (.istore_n 2, 1) := by decide +kernel
theorem dX10_lessonsWithoutVariables_4 : decode cX10_lessonsWithoutVariables 4 = .ok (.iload_n 2, 1) := by decide +kernel
theorem dX10_lessonsWithoutVariables_5 : decode cX10_lessonsWithoutVariables 5 = .ok (.aload_n 0, 1) := by decide +kernel
theorem dX10_lessonsWithoutVariables_6 : decode cX10_lessonsWithoutVariables 6 = .ok (.getfield 48, 3) := by decide +kernel
theorem dX10_lessonsWithoutVariables_9 : decode cX10_lessonsWithoutVariables 9 = .ok (.getfield 83, 3) := by decide +kernel
theorem dX10_lessonsWithoutVariables_12 : decode cX10_lessonsWithoutVariables 12 = .ok (.if_icmp .ge 68, 3) := by decide +kernel
theorem dX10_lessonsWithoutVariables_15 : decode cX10_lessonsWithoutVariables 15 = .ok (.aload_n 0, 1) := by decide +kernel
theorem dX10_lessonsWithoutVariables_16 : decode cX10_lessonsWithoutVariables 16 = .ok (.getfield 48, 3) := by decide +kernel
theorem dX10_lessonsWithoutVariables_19 : decode cX10_lessonsWithoutVariables 19 = .ok (.iload_n 2, 1) := by decide +kernel
theorem dX10_lessonsWithoutVariables_20 : decode cX10_lessonsWithoutVariables 20 = .ok (.invokevirtual 210, 3) := by decide +kernel
theorem dX10_lessonsWithoutVariables_23 : decode cX10_lessonsWithoutVariables 23 = .ok (.astore_n 3, 1) := by decide +kernel
theorem dX10_lessonsWithoutVariables_24 : decode cX10_lessonsWithoutVariables 24 = .ok (.aload_n 3, 1) := by decide +kernel
theorem dX10_lessonsWithoutVariables_25 : decode cX10_lessonsWithoutVariables 25 = .ok (.ifnull 49, 3) := by decide +kernel
theorem dX10_lessonsWithoutVariables_28 : decode cX10_lessonsWithoutVariables 28 = .ok (.aload_n 0, 1) := by decide +kernel
theorem dX10_lessonsWithoutVariables_29 : decode cX10_lessonsWithoutVariables 29 = .ok (.getfield 29, 3) := by decide +kernel
theorem dX10_lessonsWithoutVariables_32 : decode cX10_lessonsWithoutVariables 32 = .ok (.aload_n 3, 1) := by decide +kernel
theorem dX10_lessonsWithoutVariables_33 : decode cX10_lessonsWithoutVariables 33 = .ok (.aload_n 0, 1) := by decide +kernel
theorem dX10_lessonsWithoutVariables_34 : decode cX10_lessonsWithoutVariables 34 = .ok (.getfield 48, 3) := by decide +kernel
theorem dX10_lessonsWithoutVariables_37 : decode cX10_lessonsWithoutVariables 37 = .ok (.iconst 0, 1) := by decide +kernel
theorem dX10_lessonsWithoutVariables_38 : decode cX10_lessonsWithoutVariables 38 = .ok (.invokevirtual 154, 3) := by decide +kernel
theorem dX10_lessonsWithoutVariables_41 : decode cX10_lessonsWithoutVariables 41 = .ok (.ifCond .eq 33, 3) := by decide +kernel
theorem dX10_lessonsWithoutVariables_44 : decode cX10_lessonsWithoutVariables 44 = .ok (.aload_n 0, 1) := by decide +kernel
theorem dX10_lessonsWithoutVariables_45 : decode cX10_lessonsWithoutVariables 45 = .ok (.getfield 29, 3) := by decide +kernel
theorem dX10_lessonsWithoutVariables_48 : decode cX10_lessonsWithoutVariables 48 = .ok (.aload_n 0, 1) := by decide +kernel
theorem dX10_lessonsWithoutVariables_49 : decode cX10_lessonsWithoutVariables 49 = .ok (.getfield 38, 3) := by decide +kernel
theorem dX10_lessonsWithoutVariables_52 : decode cX10_lessonsWithoutVariables 52 = .ok (.invokevirtual 189, 3) := by decide +kernel
theorem dX10_lessonsWithoutVariables_55 : decode cX10_lessonsWithoutVariables 55 = .ok (.iload_n 1, 1) := by decide +kernel
theorem dX10_lessonsWithoutVariables_56 : decode cX10_lessonsWithoutVariables 56 = .ok (.aload_n 0, 1) := by decide +kernel
theorem dX10_lessonsWithoutVariables_57 : decode cX10_lessonsWithoutVariables 57 = .ok (.getfield 38, 3) := by decide +kernel
theorem dX10_lessonsWithoutVariables_60 : decode cX10_lessonsWithoutVariables 60 = .ok (.iconst 2, 1) := by decide +kernel
theorem dX10_lessonsWithoutVariables_61 : decode cX10_lessonsWithoutVariables 61 = .ok (.invokevirtual 181, 3) := by decide +kernel
theorem dX10_lessonsWithoutVariables_64 : decode cX10_lessonsWithoutVariables 64 = .ok (.ifCond .ne 7, 3) := by decide +kernel
theorem dX10_lessonsWithoutVariables_67 : decode cX10_lessonsWithoutVariables 67 = .ok (.iconst 1, 1) := by decide +kernel
theorem dX10_lessonsWithoutVariables_68 : decode cX10_lessonsWithoutVariables 68 = .ok (.goto 4, 3) := by decide +kernel
theorem dX10_lessonsWithoutVariables_71 : decode cX10_lessonsWithoutVariables 71 = .ok (.iconst 0, 1) := by decide +kernel
theorem dX10_lessonsWithoutVariables_72 : decode cX10_lessonsWithoutVariables 72 = .ok (.iadd, 1) := by decide +kernel
theorem dX10_lessonsWithoutVariables_73 : decode cX10_lessonsWithoutVariables 73 = .ok (.istore_n 1, 1) := by decide +kernel
theorem dX10_lessonsWithoutVariables_74 : decode cX10_lessonsWithoutVariables 74 = .ok (.iinc 2 1, 3) := by decide +kernel
theorem dX10_lessonsWithoutVariables_77 : decode cX10_lessonsWithoutVariables 77 = .ok (.goto (-73), 3) := by decide +kernel
theorem dX10_lessonsWithoutVariables_80 : decode cX10_lessonsWithoutVariables 80 = .ok (.iload_n 1, 1) := by decide +kernel
theorem dX10_lessonsWithoutVariables_81 : decode cX10_lessonsWithoutVariables 81 = .ok (.ireturn, 1) := by decide +kernel
theorem dX10_isCapital_0 : decode cX10_isCapital 0 = .ok (.iload_n 0, 1) := by decide +kernel
theorem dX10_isCapital_1 : decode cX10_isCapital 1 = .ok (.ifCond .lt 13, 3) := by decide +kernel
theorem dX10_isCapital_4 : decode cX10_isCapital 4 = .ok (.iload_n 0, 1) := by decide +kernel
theorem dX10_isCapital_5 : decode cX10_isCapital 5 = .ok (.bipush 8, 2) := by decide +kernel
theorem dX10_isCapital_7 : decode cX10_isCapital 7 = .ok (.if_icmp .ge 7, 3) := by decide +kernel
theorem dX10_isCapital_10 : decode cX10_isCapital 10 = .ok (.iconst 1, 1) := by decide +kernel
theorem dX10_isCapital_11 : decode cX10_isCapital 11 = .ok (.goto 4, 3) := by decide +kernel
theorem dX10_isCapital_14 : decode cX10_isCapital 14 = .ok (.iconst 0, 1) := by decide +kernel
theorem dX10_isCapital_15 : decode cX10_isCapital 15 = .ok (.ireturn, 1) := by decide +kernel
theorem dX10_isLetter_0 : decode cX10_isLetter 0 = .ok (.iload_n 0, 1) := by decide +kernel
theorem dX10_isLetter_1 : decode cX10_isLetter 1 = .ok (.bipush 97, 2) := by decide +kernel
theorem dX10_isLetter_3 : decode cX10_isLetter 3 = .ok (.if_icmp .lt 13, 3) := by decide +kernel
theorem dX10_isLetter_6 : decode cX10_isLetter 6 = .ok (.iload_n 0, 1) := by decide +kernel
theorem dX10_isLetter_7 : decode cX10_isLetter 7 = .ok (.bipush 122, 2) := by decide +kernel
theorem dX10_isLetter_9 : decode cX10_isLetter 9 = .ok (.if_icmp .gt 7, 3) := by decide +kernel
theorem dX10_isLetter_12 : decode cX10_isLetter 12 = .ok (.iconst 1, 1) := by decide +kernel
theorem dX10_isLetter_13 : decode cX10_isLetter 13 = .ok (.goto 4, 3) := by decide +kernel
theorem dX10_isLetter_16 : decode cX10_isLetter 16 = .ok (.iconst 0, 1) := by decide +kernel
theorem dX10_isLetter_17 : decode cX10_isLetter 17 = .ok (.ireturn, 1) := by decide +kernel
theorem dX10_isCapitalSign_0 : decode cX10_isCapitalSign 0 = .ok (.iload_n 0, 1) := by decide +kernel
theorem dX10_isCapitalSign_1 : decode cX10_isCapitalSign 1 = .ok (.bipush 65, 2) := by decide +kernel
theorem dX10_isCapitalSign_3 : decode cX10_isCapitalSign 3 = .ok (.if_icmp .lt 13, 3) := by decide +kernel
theorem dX10_isCapitalSign_6 : decode cX10_isCapitalSign 6 = .ok (.iload_n 0, 1) := by decide +kernel
theorem dX10_isCapitalSign_7 : decode cX10_isCapitalSign 7 = .ok (.bipush 73, 2) := by decide +kernel
theorem dX10_isCapitalSign_9 : decode cX10_isCapitalSign 9 = .ok (.if_icmp .ge 7, 3) := by decide +kernel
theorem dX10_isCapitalSign_12 : decode cX10_isCapitalSign 12 = .ok (.iconst 1, 1) := by decide +kernel
theorem dX10_isCapitalSign_13 : decode cX10_isCapitalSign 13 = .ok (.goto 4, 3) := by decide +kernel
theorem dX10_isCapitalSign_16 : decode cX10_isCapitalSign 16 = .ok (.iconst 0, 1) := by decide +kernel
theorem dX10_isCapitalSign_17 : decode cX10_isCapitalSign 17 = .ok (.ireturn, 1) := by decide +kernel
theorem dX10_isDigit_0 : decode cX10_isDigit 0 = .ok (.iload_n 0, 1) := by decide +kernel
theorem dX10_isDigit_1 : decode cX10_isDigit 1 = .ok (.bipush 48, 2) := by decide +kernel
theorem dX10_isDigit_3 : decode cX10_isDigit 3 = .ok (.if_icmp .lt 13, 3) := by decide +kernel
theorem dX10_isDigit_6 : decode cX10_isDigit 6 = .ok (.iload_n 0, 1) := by decide +kernel
theorem dX10_isDigit_7 : decode cX10_isDigit 7 = .ok (.bipush 57, 2) := by decide +kernel
theorem dX10_isDigit_9 : decode cX10_isDigit 9 = .ok (.if_icmp .gt 7, 3) := by decide +kernel
theorem dX10_isDigit_12 : decode cX10_isDigit 12 = .ok (.iconst 1, 1) := by decide +kernel
theorem dX10_isDigit_13 : decode cX10_isDigit 13 = .ok (.goto 4, 3) := by decide +kernel
theorem dX10_isDigit_16 : decode cX10_isDigit 16 = .ok (.iconst 0, 1) := by decide +kernel
theorem dX10_isDigit_17 : decode cX10_isDigit 17 = .ok (.ireturn, 1) := by decide +kernel
theorem dX10_signAt_0 : decode cX10_signAt 0 = .ok (.iload_n 1, 1) := by decide +kernel
theorem dX10_signAt_1 : decode cX10_signAt 1 = .ok (.ifCond .lt 19, 3) := by decide +kernel
theorem dX10_signAt_4 : decode cX10_signAt 4 = .ok (.iload_n 1, 1) := by decide +kernel
theorem dX10_signAt_5 : decode cX10_signAt 5 = .ok (.aload_n 0, 1) := by decide +kernel
theorem dX10_signAt_6 : decode cX10_signAt 6 = .ok (.invokevirtual 236, 3) := by decide +kernel
theorem dX10_signAt_9 : decode cX10_signAt 9 = .ok (.if_icmp .ge 11, 3) := by decide +kernel
theorem dX10_signAt_12 : decode cX10_signAt 12 = .ok (.aload_n 0, 1) := by decide +kernel
theorem dX10_signAt_13 : decode cX10_signAt 13 = .ok (.iload_n 1, 1) := by decide +kernel
theorem dX10_signAt_14 : decode cX10_signAt 14 = .ok (.invokevirtual 297, 3) := by decide +kernel
theorem dX10_signAt_17 : decode cX10_signAt 17 = .ok (.goto 4, 3) := by decide +kernel
theorem dX10_signAt_20 : decode cX10_signAt 20 = .ok (.iconst 0, 1) := by decide +kernel
theorem dX10_signAt_21 : decode cX10_signAt 21 = .ok (.ireturn, 1) := by decide +kernel
theorem dX10_at_0 : decode cX10_at 0 = .ok (.iload_n 1, 1) := by decide +kernel
theorem dX10_at_1 : decode cX10_at 1 = .ok (.ifCond .lt 15, 3) := by decide +kernel
theorem dX10_at_4 : decode cX10_at 4 = .ok (.iload_n 1, 1) := by decide +kernel
theorem dX10_at_5 : decode cX10_at 5 = .ok (.aload_n 0, 1) := by decide +kernel
theorem dX10_at_6 : decode cX10_at 6 = .ok (.arraylength, 1) := by decide +kernel
theorem dX10_at_7 : decode cX10_at 7 = .ok (.if_icmp .ge 9, 3) := by decide +kernel
theorem dX10_at_10 : decode cX10_at 10 = .ok (.aload_n 0, 1) := by decide +kernel
theorem dX10_at_11 : decode cX10_at 11 = .ok (.iload_n 1, 1) := by decide +kernel
theorem dX10_at_12 : decode cX10_at 12 = .ok (.iaload, 1) := by decide +kernel
theorem dX10_at_13 : decode cX10_at 13 = .ok (.goto 4, 3) := by decide +kernel
theorem dX10_at_16 : decode cX10_at 16 = .ok (.iconst (-1), 1) := by decide +kernel
theorem dX10_at_17 : decode cX10_at 17 = .ok (.ireturn, 1) := by decide +kernel
theorem dX10_put_0 : decode cX10_put 0 = .ok (.iload_n 1, 1) := by decide +kernel
theorem dX10_put_1 : decode cX10_put 1 = .ok (.ifCond .lt 13, 3) := by decide +kernel
theorem dX10_put_4 : decode cX10_put 4 = .ok (.iload_n 1, 1) := by decide +kernel
theorem dX10_put_5 : decode cX10_put 5 = .ok (.aload_n 0, 1) := by decide +kernel
theorem dX10_put_6 : decode cX10_put 6 = .ok (.arraylength, 1) := by decide +kernel
theorem dX10_put_7 : decode cX10_put 7 = .ok (.if_icmp .ge 7, 3) := by decide +kernel
theorem dX10_put_10 : decode cX10_put 10 = .ok (.aload_n 0, 1) := by decide +kernel
theorem dX10_put_11 : decode cX10_put 11 = .ok (.iload_n 1, 1) := by decide +kernel
theorem dX10_put_12 : decode cX10_put 12 = .ok (.iload_n 2, 1) := by decide +kernel
theorem dX10_put_13 : decode cX10_put 13 = .ok (.iastore, 1) := by decide +kernel
theorem dX10_put_14 : decode cX10_put 14 = .ok (.return_, 1) := by decide +kernel
theorem dX11_init_0 : decode cX11_init 0 = .ok (.aload_n 0, 1) := by decide +kernel
theorem dX11_init_1 : decode cX11_init 1 = .ok (.invokespecial 1, 3) := by decide +kernel
theorem dX11_init_4 : decode cX11_init 4 = .ok (.aload_n 0, 1) := by decide +kernel
theorem dX11_init_5 : decode cX11_init 5 = .ok (.iconst (-1), 1) := by decide +kernel
theorem dX11_init_6 : decode cX11_init 6 = .ok (.putfield 7, 3) := by decide +kernel
theorem dX11_init_9 : decode cX11_init 9 = .ok (.aload_n 0, 1) := by decide +kernel
theorem dX11_init_10 : decode cX11_init 10 = .ok (.sipush 569, 3) := by decide +kernel
theorem dX11_init_13 : decode cX11_init 13 = .ok (.newarray .int, 2) := by decide +kernel
theorem dX11_init_15 : decode cX11_init 15 = .ok (.putfield 13, 3) := by decide +kernel
theorem dX11_init_18 : decode cX11_init 18 = .ok (.aload_n 0, 1) := by decide +kernel
theorem dX11_init_19 : decode cX11_init 19 = .ok (.sipush 569, 3) := by decide +kernel
theorem dX11_init_22 : decode cX11_init 22 = .ok (.newarray .int, 2) := by decide +kernel
theorem dX11_init_24 : decode cX11_init 24 = .ok (.putfield 17, 3) := by decide +kernel
theorem dX11_init_27 : decode cX11_init 27 = .ok (.aload_n 0, 1) := by decide +kernel
theorem dX11_init_28 : decode cX11_init 28 = .ok (.sipush 569, 3) := by decide +kernel
theorem dX11_init_31 : decode cX11_init 31 = .ok (.newarray .int, 2) := by decide +kernel
theorem dX11_init_33 : decode cX11_init 33 = .ok (.putfield 20, 3) := by decide +kernel
theorem dX11_init_36 : decode cX11_init 36 = .ok (.aload_n 0, 1) := by decide +kernel
theorem dX11_init_37 : decode cX11_init 37 = .ok (.sipush 4552, 3) := by decide +kernel
theorem dX11_init_40 : decode cX11_init 40 = .ok (.newarray .int, 2) := by decide +kernel
theorem dX11_init_42 : decode cX11_init 42 = .ok (.putfield 23, 3) := by decide +kernel
theorem dX11_init_45 : decode cX11_init 45 = .ok (.aload_n 0, 1) := by decide +kernel
theorem dX11_init_46 : decode cX11_init 46 = .ok (.bipush 64, 2) := by decide +kernel
theorem dX11_init_48 : decode cX11_init 48 = .ok (.newarray .int, 2) := by decide +kernel
theorem dX11_init_50 : decode cX11_init 50 = .ok (.putfield 26, 3) := by decide +kernel
theorem dX11_init_53 : decode cX11_init 53 = .ok (.aload_n 0, 1) := by decide +kernel
theorem dX11_init_54 : decode cX11_init 54 = .ok (.bipush 64, 2) := by decide +kernel
theorem dX11_init_56 : decode cX11_init 56 = .ok (.newarray .int, 2) := by decide +kernel
theorem dX11_init_58 : decode cX11_init 58 = .ok (.putfield 29, 3) := by decide +kernel
theorem dX11_init_61 : decode cX11_init 61 = .ok (.aload_n 0, 1) := by decide +kernel
theorem dX11_init_62 : decode cX11_init 62 = .ok (.bipush 64, 2) := by decide +kernel
theorem dX11_init_64 : decode cX11_init 64 = .ok (.newarray .int, 2) := by decide +kernel
theorem dX11_init_66 : decode cX11_init 66 = .ok (.putfield 32, 3) := by decide +kernel
theorem dX11_init_69 : decode cX11_init 69 = .ok (.aload_n 0, 1) := by decide +kernel
theorem dX11_init_70 : decode cX11_init 70 = .ok (.bipush 64, 2) := by decide +kernel
theorem dX11_init_72 : decode cX11_init 72 = .ok (.newarray .int, 2) := by decide +kernel
theorem dX11_init_74 : decode cX11_init 74 = .ok (.putfield 35, 3) := by decide +kernel
theorem dX11_init_77 : decode cX11_init 77 = .ok (.aload_n 0, 1) := by decide +kernel
theorem dX11_init_78 : decode cX11_init 78 = .ok (.bipush 64, 2) := by decide +kernel
theorem dX11_init_80 : decode cX11_init 80 = .ok (.newarray .int, 2) := by decide +kernel
theorem dX11_init_82 : decode cX11_init 82 = .ok (.putfield 38, 3) := by decide +kernel
theorem dX11_init_85 : decode cX11_init 85 = .ok (.aload_n 0, 1) := by decide +kernel
theorem dX11_init_86 : decode cX11_init 86 = .ok (.sipush 130, 3) := by decide +kernel
theorem dX11_init_89 : decode cX11_init 89 = .ok (.newarray .int, 2) := by decide +kernel
theorem dX11_init_91 : decode cX11_init 91 = .ok (.putfield 41, 3) := by decide +kernel
theorem dX11_init_94 : decode cX11_init 94 = .ok (.aload_n 0, 1) := by decide +kernel
theorem dX11_init_95 : decode cX11_init 95 = .ok (.sipush 130, 3) := by decide +kernel
theorem dX11_init_98 : decode cX11_init 98 = .ok (.newarray .int, 2) := by decide +kernel
theorem dX11_init_100 : decode cX11_init 100 = .ok (.putfield 44, 3) := by decide +kernel
theorem dX11_init_103 : decode cX11_init 103 = .ok (.aload_n 0, 1) := by decide +kernel
theorem dX11_init_104 : decode cX11_init 104 = .ok (.sipush 130, 3) := by decide +kernel
theorem dX11_init_107 : decode cX11_init 107 = .ok (.newarray .int, 2) := by decide +kernel
theorem dX11_init_109 : decode cX11_init 109 = .ok (.putfield 47, 3) := by decide +kernel
theorem dX11_init_112 : decode cX11_init 112 = .ok (.aload_n 0, 1) := by decide +kernel
theorem dX11_init_113 : decode cX11_init 113 = .ok (.sipush 130, 3) := by decide +kernel
theorem dX11_init_116 : decode cX11_init 116 = .ok (.newarray .int, 2) := by decide +kernel
theorem dX11_init_118 : decode cX11_init 118 = .ok (.putfield 50, 3) := by decide +kernel
theorem dX11_init_121 : decode cX11_init 121 = .ok (.aload_n 0, 1) := by decide +kernel
theorem dX11_init_122 : decode cX11_init 122 = .ok (.sipush 130, 3) := by decide +kernel
theorem dX11_init_125 : decode cX11_init 125 = .ok (.newarray .int, 2) := by decide +kernel
theorem dX11_init_127 : decode cX11_init 127 = .ok (.putfield 53, 3) := by decide +kernel
theorem dX11_init_130 : decode cX11_init 130 = .ok (.aload_n 0, 1) := by decide +kernel
theorem dX11_init_131 : decode cX11_init 131 = .ok (.sipush 130, 3) := by decide +kernel
theorem dX11_init_134 : decode cX11_init 134 = .ok (.newarray .int, 2) := by decide +kernel
theorem dX11_init_136 : decode cX11_init 136 = .ok (.putfield 56, 3) := by decide +kernel
theorem dX11_init_139 : decode cX11_init 139 = .ok (.aload_n 0, 1) := by decide +kernel
theorem dX11_init_140 : decode cX11_init 140 = .ok (.sipush 130, 3) := by decide +kernel
theorem dX11_init_143 : decode cX11_init 143 = .ok (.newarray .int, 2) := by decide +kernel
theorem dX11_init_145 : decode cX11_init 145 = .ok (.putfield 59, 3) := by decide +kernel
theorem dX11_init_148 : decode cX11_init 148 = .ok (.aload_n 0, 1) := by decide +kernel
theorem dX11_init_149 : decode cX11_init 149 = .ok (.sipush 130, 3) := by decide +kernel
theorem dX11_init_152 : decode cX11_init 152 = .ok (.newarray .int, 2) := by decide +kernel
theorem dX11_init_154 : decode cX11_init 154 = .ok (.putfield 62, 3) := by decide +kernel
theorem dX11_init_157 : decode cX11_init 157 = .ok (.aload_n 0, 1) := by decide +kernel
theorem dX11_init_158 : decode cX11_init 158 = .ok (.sipush 130, 3) := by decide +kernel
theorem dX11_init_161 : decode cX11_init 161 = .ok (.newarray .int, 2) := by decide +kernel
theorem dX11_init_163 : decode cX11_init 163 = .ok (.putfield 65, 3) := by decide +kernel
theorem dX11_init_166 : decode cX11_init 166 = .ok (.aload_n 0, 1) := by decide +kernel
theorem dX11_init_167 : decode cX11_init 167 = .ok (.sipush 130, 3) := by decide +kernel
theorem dX11_init_170 : decode cX11_init 170 = .ok (.newarray .int, 2) := by decide +kernel
theorem dX11_init_172 : decode cX11_init 172 = .ok (.putfield 68, 3) := by decide +kernel
theorem dX11_init_175 : decode cX11_init 175 = .ok (.aload_n 0, 1) := by decide +kernel
theorem dX11_init_176 : decode cX11_init 176 = .ok (.sipush 130, 3) := by decide +kernel
theorem dX11_init_179 : decode cX11_init 179 = .ok (.newarray .int, 2) := by decide +kernel
theorem dX11_init_181 : decode cX11_init 181 = .ok (.putfield 71, 3) := by decide +kernel
theorem dX11_init_184 : decode cX11_init 184 = .ok (.aload_n 0, 1) := by decide +kernel
theorem dX11_init_185 : decode cX11_init 185 = .ok (.sipush 130, 3) := by decide +kernel
theorem dX11_init_188 : decode cX11_init 188 = .ok (.newarray .int, 2) := by decide +kernel
theorem dX11_init_190 : decode cX11_init 190 = .ok (.putfield 74, 3) := by decide +kernel
theorem dX11_init_193 : decode cX11_init 193 = .ok (.aload_n 0, 1) := by decide +kernel
theorem dX11_init_194 : decode cX11_init 194 = .ok (.sipush 130, 3) := by decide +kernel
theorem dX11_init_197 : decode cX11_init 197 = .ok (.newarray .int, 2) := by decide +kernel
theorem dX11_init_199 : decode cX11_init 199 = .ok (.putfield 77, 3) := by decide +kernel
theorem dX11_init_202 : decode cX11_init 202 = .ok (.aload_n 0, 1) := by decide +kernel
theorem dX11_init_203 : decode cX11_init 203 = .ok (.sipush 130, 3) := by decide +kernel
theorem dX11_init_206 : decode cX11_init 206 = .ok (.newarray .int, 2) := by decide +kernel
theorem dX11_init_208 : decode cX11_init 208 = .ok (.putfield 80, 3) := by decide +kernel
theorem dX11_init_211 : decode cX11_init 211 = .ok (.aload_n 0, 1) := by decide +kernel
theorem dX11_init_212 : decode cX11_init 212 = .ok (.sipush 20000, 3) := by decide +kernel
theorem dX11_init_215 : decode cX11_init 215 = .ok (.newarray .int, 2) := by decide +kernel
theorem dX11_init_217 : decode cX11_init 217 = .ok (.putfield 83, 3) := by decide +kernel
theorem dX11_init_220 : decode cX11_init 220 = .ok (.aload_n 0, 1) := by decide +kernel
theorem dX11_init_221 : decode cX11_init 221 = .ok (.sipush 20000, 3) := by decide +kernel
theorem dX11_init_224 : decode cX11_init 224 = .ok (.newarray .int, 2) := by decide +kernel
theorem dX11_init_226 : decode cX11_init 226 = .ok (.putfield 86, 3) := by decide +kernel
theorem dX11_init_229 : decode cX11_init 229 = .ok (.aload_n 0, 1) := by decide +kernel
theorem dX11_init_230 : decode cX11_init 230 = .ok (.sipush 20000, 3) := by decide +kernel
theorem dX11_init_233 : decode cX11_init 233 = .ok (.newarray .int, 2) := by decide +kernel
theorem dX11_init_235 : decode cX11_init 235 = .ok (.putfield 89, 3) := by decide +kernel
theorem dX11_init_238 : decode cX11_init 238 = .ok (.aload_n 0, 1) := by decide +kernel
theorem dX11_init_239 : decode cX11_init 239 = .ok (.sipush 20000, 3) := by decide +kernel
theorem dX11_init_242 : decode cX11_init 242 = .ok (.newarray .int, 2) := by decide +kernel
theorem dX11_init_244 : decode cX11_init 244 = .ok (.putfield 92, 3) := by decide +kernel
theorem dX11_init_247 : decode cX11_init 247 = .ok (.aload_n 0, 1) := by decide +kernel
theorem dX11_init_248 : decode cX11_init 248 = .ok (.sipush 20000, 3) := by decide +kernel
theorem dX11_init_251 : decode cX11_init 251 = .ok (.newarray .int, 2) := by decide +kernel
theorem dX11_init_253 : decode cX11_init 253 = .ok (.putfield 95, 3) := by decide +kernel
theorem dX11_init_256 : decode cX11_init 256 = .ok (.aload_n 0, 1) := by decide +kernel
theorem dX11_init_257 : decode cX11_init 257 = .ok (.sipush 20000, 3) := by decide +kernel
theorem dX11_init_260 : decode cX11_init 260 = .ok (.newarray .int, 2) := by decide +kernel
theorem dX11_init_262 : decode cX11_init 262 = .ok (.putfield 98, 3) := by decide +kernel
theorem dX11_init_265 : decode cX11_init 265 = .ok (.aload_n 0, 1) := by decide +kernel
theorem dX11_init_266 : decode cX11_init 266 = .ok (.sipush 20000, 3) := by decide +kernel
theorem dX11_init_269 : decode cX11_init 269 = .ok (.newarray .int, 2) := by decide +kernel
theorem dX11_init_271 : decode cX11_init 271 = .ok (.putfield 101, 3) := by decide +kernel
theorem dX11_init_274 : decode cX11_init 274 = .ok (.aload_n 0, 1) := by decide +kernel
theorem dX11_init_275 : decode cX11_init 275 = .ok (.sipush 20000, 3) := by decide +kernel
theorem dX11_init_278 : decode cX11_init 278 = .ok (.newarray .int, 2) := by decide +kernel
theorem dX11_init_280 : decode cX11_init 280 = .ok (.putfield 104, 3) := by decide +kernel
theorem dX11_init_283 : decode cX11_init 283 = .ok (.aload_n 0, 1) := by decide +kernel
theorem dX11_init_284 : decode cX11_init 284 = .ok (.sipush 20000, 3) := by decide +kernel
theorem dX11_init_287 : decode cX11_init 287 = .ok (.newarray .int, 2) := by decide +kernel
theorem dX11_init_289 : decode cX11_init 289 = .ok (.putfield 107, 3) := by decide +kernel
theorem dX11_init_292 : decode cX11_init 292 = .ok (.aload_n 0, 1) := by decide +kernel
theorem dX11_init_293 : decode cX11_init 293 = .ok (.sipush 6000, 3) := by decide +kernel
theorem dX11_init_296 : decode cX11_init 296 = .ok (.newarray .int, 2) := by decide +kernel
theorem dX11_init_298 : decode cX11_init 298 = .ok (.putfield 110, 3) := by decide +kernel
theorem dX11_init_301 : decode cX11_init 301 = .ok (.aload_n 0, 1) := by decide +kernel
theorem dX11_init_302 : decode cX11_init 302 = .ok (.sipush 6000, 3) := by decide +kernel
theorem dX11_init_305 : decode cX11_init 305 = .ok (.newarray .int, 2) := by decide +kernel
theorem dX11_init_307 : decode cX11_init 307 = .ok (.putfield 113, 3) := by decide +kernel
theorem dX11_init_310 : decode cX11_init 310 = .ok (.aload_n 0, 1) := by decide +kernel
theorem dX11_init_311 : decode cX11_init 311 = .ok (.sipush 6000, 3) := by decide +kernel
theorem dX11_init_314 : decode cX11_init 314 = .ok (.newarray .int, 2) := by decide +kernel
theorem dX11_init_316 : decode cX11_init 316 = .ok (.putfield 116, 3) := by decide +kernel
theorem dX11_init_319 : decode cX11_init 319 = .ok (.aload_n 0, 1) := by decide +kernel
theorem dX11_init_320 : decode cX11_init 320 = .ok (.sipush 210, 3) := by decide +kernel
theorem dX11_init_323 : decode cX11_init 323 = .ok (.newarray .int, 2) := by decide +kernel
theorem dX11_init_325 : decode cX11_init 325 = .ok (.putfield 119, 3) := by decide +kernel
theorem dX11_init_328 : decode cX11_init 328 = .ok (.aload_n 0, 1) := by decide +kernel
theorem dX11_init_329 : decode cX11_init 329 = .ok (.sipush 210, 3) := by decide +kernel
theorem dX11_init_332 : decode cX11_init 332 = .ok (.newarray .int, 2) := by decide +kernel
theorem dX11_init_334 : decode cX11_init 334 = .ok (.putfield 122, 3) := by decide +kernel
theorem dX11_init_337 : decode cX11_init 337 = .ok (.aload_n 0, 1) := by decide +kernel
theorem dX11_init_338 : decode cX11_init 338 = .ok (.sipush 210, 3) := by decide +kernel
theorem dX11_init_341 : decode cX11_init 341 = .ok (.newarray .int, 2) := by decide +kernel
theorem dX11_init_343 : decode cX11_init 343 = .ok (.putfield 125, 3) := by decide +kernel
theorem dX11_init_346 : decode cX11_init 346 = .ok (.aload_n 0, 1) := by decide +kernel
theorem dX11_init_347 : decode cX11_init 347 = .ok (.sipush 210, 3) := by decide +kernel
theorem dX11_init_350 : decode cX11_init 350 = .ok (.newarray .int, 2) := by decide +kernel
theorem dX11_init_352 : decode cX11_init 352 = .ok (.putfield 128, 3) := by decide +kernel
theorem dX11_init_355 : decode cX11_init 355 = .ok (.aload_n 0, 1) := by decide +kernel
theorem dX11_init_356 : decode cX11_init 356 = .ok (.sipush 210, 3) := by decide +kernel
theorem dX11_init_359 : decode cX11_init 359 = .ok (.newarray .int, 2) := by decide +kernel
theorem dX11_init_361 : decode cX11_init 361 = .ok (.putfield 131, 3) := by decide +kernel
theorem dX11_init_364 : decode cX11_init 364 = .ok (.aload_n 0, 1) := by decide +kernel
theorem dX11_init_365 : decode cX11_init 365 = .ok (.sipush 210, 3) := by decide +kernel
theorem dX11_init_368 : decode cX11_init 368 = .ok (.newarray .int, 2) := by decide +kernel
theorem dX11_init_370 : decode cX11_init 370 = .ok (.putfield 134, 3) := by decide +kernel
theorem dX11_init_373 : decode cX11_init 373 = .ok (.aload_n 0, 1) := by decide +kernel
theorem dX11_init_374 : decode cX11_init 374 = .ok (.sipush 130, 3) := by decide +kernel
theorem dX11_init_377 : decode cX11_init 377 = .ok (.newarray .int, 2) := by decide +kernel
theorem dX11_init_379 : decode cX11_init 379 = .ok (.putfield 137, 3) := by decide +kernel
theorem dX11_init_382 : decode cX11_init 382 = .ok (.aload_n 0, 1) := by decide +kernel
theorem dX11_init_383 : decode cX11_init 383 = .ok (.sipush 130, 3) := by decide +kernel
theorem dX11_init_386 : decode cX11_init 386 = .ok (.newarray .int, 2) := by decide +kernel
theorem dX11_init_388 : decode cX11_init 388 = .ok (.putfield 140, 3) := by decide +kernel
theorem dX11_init_391 : decode cX11_init 391 = .ok (.aload_n 0, 1) := by decide +kernel
theorem dX11_init_392 : decode cX11_init 392 = .ok (.sipush 400, 3) := by decide +kernel
theorem dX11_init_395 : decode cX11_init 395 = .ok (.newarray .int, 2) := by decide +kernel
theorem dX11_init_397 : decode cX11_init 397 = .ok (.putfield 143, 3) := by decide +kernel
theorem dX11_init_400 : decode cX11_init 400 = .ok (.aload_n 0, 1) := by decide +kernel
theorem dX11_init_401 : decode cX11_init 401 = .ok (.sipush 400, 3) := by decide +kernel
theorem dX11_init_404 : decode cX11_init 404 = .ok (.newarray .int, 2) := by decide +kernel
theorem dX11_init_406 : decode cX11_init 406 = .ok (.putfield 146, 3) := by decide +kernel
theorem dX11_init_409 : decode cX11_init 409 = .ok (.aload_n 0, 1) := by decide +kernel
theorem dX11_init_410 : decode cX11_init 410 = .ok (.bipush 60, 2) := by decide +kernel
theorem dX11_init_412 : decode cX11_init 412 = .ok (.newarray .int, 2) := by decide +kernel
theorem dX11_init_414 : decode cX11_init 414 = .ok (.putfield 149, 3) := by decide +kernel
theorem dX11_init_417 : decode cX11_init 417 = .ok (.aload_n 0, 1) := by decide +kernel
theorem dX11_init_418 : decode cX11_init 418 = .ok (.sipush 130, 3) := by decide +kernel
theorem dX11_init_421 : decode cX11_init 421 = .ok (.newarray .int, 2) := by decide +kernel
theorem dX11_init_423 : decode cX11_init 423 = .ok (.putfield 152, 3) := by decide +kernel
theorem dX11_init_426 : decode cX11_init 426 = .ok (.aload_n 0, 1) := by decide +kernel
theorem dX11_init_427 : decode cX11_init 427 = .ok (.sipush 900, 3) := by decide +kernel
theorem dX11_init_430 : decode cX11_init 430 = .ok (.newarray .int, 2) := by decide +kernel
theorem dX11_init_432 : decode cX11_init 432 = .ok (.putfield 155, 3) := by decide +kernel
theorem dX11_init_435 : decode cX11_init 435 = .ok (.aload_n 0, 1) := by decide +kernel
theorem dX11_init_436 : decode cX11_init 436 = .ok (.sipush 900, 3) := by decide +kernel
theorem dX11_init_439 : decode cX11_init 439 = .ok (.newarray .int, 2) := by decide +kernel
theorem dX11_init_441 : decode cX11_init 441 = .ok (.putfield 158, 3) := by decide +kernel
theorem dX11_init_444 : decode cX11_init 444 = .ok (.return_, 1) := by decide +kernel
theorem dX11_thrown_0 : decode cX11_thrown 0 = .ok (.aload_n 0, 1) := by decide +kernel
theorem dX11_thrown_1 : decode cX11_thrown 1 = .ok (.getfield 161, 3) := by decide +kernel
theorem dX11_thrown_4 : decode cX11_thrown 4 = .ok (.ireturn, 1) := by decide +kernel
theorem dX11_isIn_0 : decode cX11_isIn 0 = .ok (.iload_n 0, 1) := by decide +kernel
theorem dX11_isIn_1 : decode cX11_isIn 1 = .ok (.iload_n 1, 1) := by decide +kernel
theorem dX11_isIn_2 : decode cX11_isIn 2 = .ok (.if_icmp .lt 12, 3) := by decide +kernel
theorem dX11_isIn_5 : decode cX11_isIn 5 = .ok (.iload_n 0, 1) := by decide +kernel
theorem dX11_isIn_6 : decode cX11_isIn 6 = .ok (.iload_n 2, 1) := by decide +kernel
theorem dX11_isIn_7 : decode cX11_isIn 7 = .ok (.if_icmp .gt 7, 3) := by decide +kernel
theorem dX11_isIn_10 : decode cX11_isIn 10 = .ok (.iconst 1, 1) := by decide +kernel
theorem dX11_isIn_11 : decode cX11_isIn 11 = .ok (.goto 4, 3) := by decide +kernel
theorem dX11_isIn_14 : decode cX11_isIn 14 = .ok (.iconst 0, 1) := by decide +kernel
theorem dX11_isIn_15 : decode cX11_isIn 15 = .ok (.ireturn, 1) := by decide +kernel
theorem dX11_lays_0 : decode cX11_lays 0 = .ok (.iconst 0, 1) := by decide +kernel
theorem dX11_lays_1 : decode cX11_lays 1 = .ok (.istore_n 2, 1) := by decide +kernel
theorem dX11_lays_2 : decode cX11_lays 2 = .ok (.iload_n 2, 1) := by decide +kernel
theorem dX11_lays_3 : decode cX11_lays 3 = .ok (.sipush 569, 3) := by decide +kernel
theorem dX11_lays_6 : decode cX11_lays 6 = .ok (.if_icmp .ge 15, 3) := by decide +kernel
theorem dX11_lays_9 : decode cX11_lays 9 = .ok (.aload_n 0, 1) := by decide +kernel
theorem dX11_lays_10 : decode cX11_lays 10 = .ok (.iload_n 2, 1) := by decide +kernel
theorem dX11_lays_11 : decode cX11_lays 11 = .ok (.aload_n 1, 1) := by decide +kernel
theorem dX11_lays_12 : decode cX11_lays 12 = .ok (.iload_n 2, 1) := by decide +kernel
theorem dX11_lays_13 : decode cX11_lays 13 = .ok (.iaload, 1) := by decide +kernel
theorem dX11_lays_14 : decode cX11_lays 14 = .ok (.iastore, 1) := by decide +kernel
theorem dX11_lays_15 : decode cX11_lays 15 = .ok (.iinc 2 1, 3) := by decide +kernel
theorem dX11_lays_18 : decode cX11_lays 18 = .ok (.goto (-16), 3) := by decide +kernel
theorem dX11_lays_21 : decode cX11_lays 21 = .ok (.return_, 1) := by decide +kernel
theorem dX11_no_0 : decode cX11_no 0 = .ok (.aload_n 0, 1) := by decide +kernel
theorem dX11_no_1 : decode cX11_no 1 = .ok (.iload_n 1, 1) := by decide +kernel
theorem dX11_no_2 : decode cX11_no 2 = .ok (.putfield 161, 3) := by decide +kernel
theorem dX11_no_5 : decode cX11_no 5 = .ok (.iconst 0, 1) := by decide +kernel
theorem dX11_no_6 : decode cX11_no 6 = .ok (.ireturn, 1) := by decide +kernel
theorem dX11_lessonAt_0 : decode cX11_lessonAt 0 = .ok (.iconst 3, 1) := by decide +kernel
theorem dX11_lessonAt_1 : decode cX11_lessonAt 1 = .ok (.bipush 61, 2) := by decide +kernel
theorem dX11_lessonAt_3 : decode cX11_lessonAt 3 = .ok (.iload_n 0, 1) := by decide +kernel
theorem dX11_lessonAt_4 : decode cX11_lessonAt 4 = .ok (.imul, 1) := by decide +kernel
theorem dX11_lessonAt_5 : decode cX11_lessonAt 5 = .ok (.iadd, 1) := by decide +kernel
theorem dX11_lessonAt_6 : decode cX11_lessonAt 6 = .ok (.ireturn, 1) := by decide +kernel
theorem dX11_keptAt_0 : decode cX11_keptAt 0 = .ok (.sipush 369, 3) := by decide +kernel
theorem dX11_keptAt_3 : decode cX11_keptAt 3 = .ok (.bipush 25, 2) := by decide +kernel
theorem dX11_keptAt_5 : decode cX11_keptAt 5 = .ok (.iload_n 0, 1) := by decide +kernel
theorem dX11_keptAt_6 : decode cX11_keptAt 6 = .ok (.imul, 1) := by decide +kernel
theorem dX11_keptAt_7 : decode cX11_keptAt 7 = .ok (.iadd, 1) := by decide +kernel
theorem dX11_keptAt_8 : decode cX11_keptAt 8 = .ok (.ireturn, 1) := by decide +kernel
theorem dX11_isLesson_0 : decode cX11_isLesson 0 = .ok (.iload_n 1, 1) := by decide +kernel
theorem dX11_isLesson_1 : decode cX11_isLesson 1 = .ok (.iconst 0, 1) := by decide +kernel
theorem dX11_isLesson_2 : decode cX11_isLesson 2 = .ok (.aload_n 0, 1) := by decide +kernel
theorem dX11_isLesson_3 : decode cX11_isLesson 3 = .ok (.getfield 13, 3) := by decide +kernel
theorem dX11_isLesson_6 : decode cX11_isLesson 6 = .ok (.iconst 0, 1) := by decide +kernel
theorem dX11_isLesson_7 : decode cX11_isLesson 7 = .ok (.iaload, 1) := by decide +kernel
theorem dX11_isLesson_8 : decode cX11_isLesson 8 = .ok (.iconst 1, 1) := by decide +kernel
theorem dX11_isLesson_9 : decode cX11_isLesson 9 = .ok (.isub, 1) := by decide +kernel
theorem dX11_isLesson_10 : decode cX11_isLesson 10 = .ok (.invokestatic 164, 3) := by decide +kernel
theorem dX11_isLesson_13 : decode cX11_isLesson 13 = .ok (.ireturn, 1) := by decide +kernel
theorem dX11_isSmall_0 : decode cX11_isSmall 0 = .ok (.iload_n 0, 1) := by decide +kernel
theorem dX11_isSmall_1 : decode cX11_isSmall 1 = .ok (.bipush 97, 2) := by decide +kernel
theorem dX11_isSmall_3 : decode cX11_isSmall 3 = .ok (.if_icmp .lt 13, 3) := by decide +kernel
theorem dX11_isSmall_6 : decode cX11_isSmall 6 = .ok (.iload_n 0, 1) := by decide +kernel
theorem dX11_isSmall_7 : decode cX11_isSmall 7 = .ok (.bipush 122, 2) := by decide +kernel
theorem dX11_isSmall_9 : decode cX11_isSmall 9 = .ok (.if_icmp .gt 7, 3) := by decide +kernel
theorem dX11_isSmall_12 : decode cX11_isSmall 12 = .ok (.iconst 1, 1) := by decide +kernel
theorem dX11_isSmall_13 : decode cX11_isSmall 13 = .ok (.goto 4, 3) := by decide +kernel
theorem dX11_isSmall_16 : decode cX11_isSmall 16 = .ok (.iconst 0, 1) := by decide +kernel
theorem dX11_isSmall_17 : decode cX11_isSmall 17 = .ok (.ireturn, 1) := by decide +kernel
theorem dX11_isCapital_0 : decode cX11_isCapital 0 = .ok (.iload_n 0, 1) := by decide +kernel
theorem dX11_isCapital_1 : decode cX11_isCapital 1 = .ok (.bipush 65, 2) := by decide +kernel
theorem dX11_isCapital_3 : decode cX11_isCapital 3 = .ok (.if_icmp .lt 13, 3) := by decide +kernel
theorem dX11_isCapital_6 : decode cX11_isCapital 6 = .ok (.iload_n 0, 1) := by decide +kernel
theorem dX11_isCapital_7 : decode cX11_isCapital 7 = .ok (.bipush 72, 2) := by decide +kernel
theorem dX11_isCapital_9 : decode cX11_isCapital 9 = .ok (.if_icmp .gt 7, 3) := by decide +kernel
theorem dX11_isCapital_12 : decode cX11_isCapital 12 = .ok (.iconst 1, 1) := by decide +kernel
theorem dX11_isCapital_13 : decode cX11_isCapital 13 = .ok (.goto 4, 3) := by decide +kernel
theorem dX11_isCapital_16 : decode cX11_isCapital 16 = .ok (.iconst 0, 1) := by decide +kernel
theorem dX11_isCapital_17 : decode cX11_isCapital 17 = .ok (.ireturn, 1) := by decide +kernel
theorem dX11_raw_0 : decode cX11_raw 0 = .ok (.aload_n 0, 1) := by decide +kernel
theorem dX11_raw_1 : decode cX11_raw 1 = .ok (.getfield 41, 3) := by decide +kernel
theorem dX11_raw_4 : decode cX11_raw 4 = .ok (.aload_n 0, 1) := by decide +kernel
theorem dX11_raw_5 : decode cX11_raw 5 = .ok (.getfield 168, 3) := by decide +kernel
theorem dX11_raw_8 : decode cX11_raw 8 = .ok (.iload_n 1, 1) := by decide +kernel
theorem dX11_raw_9 : decode cX11_raw 9 = .ok (.iastore, 1) := by decide +kernel
theorem dX11_raw_10 : decode cX11_raw 10 = .ok (.aload_n 0, 1) := by decide +kernel
theorem dX11_raw_11 : decode cX11_raw 11 = .ok (.getfield 44, 3) := by decide +kernel
theorem dX11_raw_14 : decode cX11_raw 14 = .ok (.aload_n 0, 1) := by decide +kernel
theorem dX11_raw_15 : decode cX11_raw 15 = .ok (.getfield 168, 3) := by decide +kernel
theorem dX11_raw_18 : decode cX11_raw 18 = .ok (.iload_n 2, 1) := by decide +kernel
theorem dX11_raw_19 : decode cX11_raw 19 = .ok (.iastore, 1) := by decide +kernel
theorem dX11_raw_20 : decode cX11_raw 20 = .ok (.aload_n 0, 1) := by decide +kernel
theorem dX11_raw_21 : decode cX11_raw 21 = .ok (.getfield 47, 3) := by decide +kernel
theorem dX11_raw_24 : decode cX11_raw 24 = .ok (.aload_n 0, 1) := by decide +kernel
theorem dX11_raw_25 : decode cX11_raw 25 = .ok (.getfield 168, 3) := by decide +kernel
theorem dX11_raw_28 : decode cX11_raw 28 = .ok (.iload_n 3, 1) := by decide +kernel
theorem dX11_raw_29 : decode cX11_raw 29 = .ok (.iastore, 1) := by decide +kernel
theorem dX11_raw_30 : decode cX11_raw 30 = .ok (.aload_n 0, 1) := by decide +kernel
theorem dX11_raw_31 : decode cX11_raw 31 = .ok (.getfield 50, 3) := by decide +kernel
theorem dX11_raw_34 : decode cX11_raw 34 = .ok (.aload_n 0, 1) := by decide +kernel
theorem dX11_raw_35 : decode cX11_raw 35 = .ok (.getfield 168, 3) := by decide +kernel
theorem dX11_raw_38 : decode cX11_raw 38 = .ok (.iload 4, 2) := by decide +kernel
theorem dX11_raw_40 : decode cX11_raw 40 = .ok (.iastore, 1) := by decide +kernel
theorem dX11_raw_41 : decode cX11_raw 41 = .ok (.aload_n 0, 1) := by decide +kernel
theorem dX11_raw_42 : decode cX11_raw 42 = .ok (.getfield 53, 3) := by decide +kernel
theorem dX11_raw_45 : decode cX11_raw 45 = .ok (.aload_n 0, 1) := by decide +kernel
theorem dX11_raw_46 : decode cX11_raw 46 = .ok (.getfield 168, 3) := by decide +kernel
theorem dX11_raw_49 : decode cX11_raw 49 = .ok (.iload 5, 2) := by decide +kernel
theorem dX11_raw_51 : decode cX11_raw 51 = .ok (.iastore, 1) := by decide +kernel
theorem dX11_raw_52 : decode cX11_raw 52 = .ok (.aload_n 0, 1) := by decide +kernel
theorem dX11_raw_53 : decode cX11_raw 53 = .ok (.dup, 1) := by decide +kernel
theorem dX11_raw_54 : decode cX11_raw 54 = .ok (.getfield 168, 3) := by decide +kernel
theorem dX11_raw_57 : decode cX11_raw 57 = .ok (.iconst 1, 1) := by decide +kernel
theorem dX11_raw_58 : decode cX11_raw 58 = .ok (.iadd, 1) := by decide +kernel
theorem dX11_raw_59 : decode cX11_raw 59 = .ok (.putfield 168, 3) := by decide +kernel
theorem dX11_raw_62 : decode cX11_raw 62 = .ok (.aload_n 0, 1) := by decide +kernel
theorem dX11_raw_63 : decode cX11_raw 63 = .ok (.getfield 168, 3) := by decide +kernel
theorem dX11_raw_66 : decode cX11_raw 66 = .ok (.iconst 1, 1) := by decide +kernel
theorem dX11_raw_67 : decode cX11_raw 67 = .ok (.isub, 1) := by decide +kernel
theorem dX11_raw_68 : decode cX11_raw 68 = .ok (.ireturn, 1) := by decide +kernel
theorem dX11_opens_0 : decode cX11_opens 0 = .ok (.aload_n 0, 1) := by decide +kernel
theorem dX11_opens_1 : decode cX11_opens 1 = .ok (.dup, 1) := by decide +kernel
theorem dX11_opens_2 : decode cX11_opens 2 = .ok (.getfield 171, 3) := by decide +kernel
theorem dX11_opens_5 : decode cX11_opens 5 = .ok (.iconst 1, 1) := by decide +kernel
theorem dX11_opens_6 : decode cX11_opens 6 = .ok (.iadd, 1) := by decide +kernel
theorem dX11_opens_7 : decode cX11_opens 7 = .ok (.putfield 171, 3) := by decide +kernel
theorem dX11_opens_10 : decode cX11_opens 10 = .ok (.aload_n 0, 1) := by decide +kernel
theorem dX11_opens_11 : decode cX11_opens 11 = .ok (.getfield 26, 3) := by decide +kernel
theorem dX11_opens_14 : decode cX11_opens 14 = .ok (.aload_n 0, 1) := by decide +kernel
theorem dX11_opens_15 : decode cX11_opens 15 = .ok (.getfield 171, 3) := by decide +kernel
theorem dX11_opens_18 : decode cX11_opens 18 = .ok (.iload_n 1, 1) := by decide +kernel
theorem dX11_opens_19 : decode cX11_opens 19 = .ok (.iastore, 1) := by decide +kernel
theorem dX11_opens_20 : decode cX11_opens 20 = .ok (.aload_n 0, 1) := by decide +kernel
theorem dX11_opens_21 : decode cX11_opens 21 = .ok (.getfield 29, 3) := by decide +kernel
theorem dX11_opens_24 : decode cX11_opens 24 = .ok (.aload_n 0, 1) := by decide +kernel
theorem dX11_opens_25 : decode cX11_opens 25 = .ok (.getfield 171, 3) := by decide +kernel
theorem dX11_opens_28 : decode cX11_opens 28 = .ok (.iconst (-1), 1) := by decide +kernel
theorem dX11_opens_29 : decode cX11_opens 29 = .ok (.iastore, 1) := by decide +kernel
theorem dX11_opens_30 : decode cX11_opens 30 = .ok (.aload_n 0, 1) := by decide +kernel
theorem dX11_opens_31 : decode cX11_opens 31 = .ok (.getfield 32, 3) := by decide +kernel
theorem dX11_opens_34 : decode cX11_opens 34 = .ok (.aload_n 0, 1) := by decide +kernel
theorem dX11_opens_35 : decode cX11_opens 35 = .ok (.getfield 171, 3) := by decide +kernel
theorem dX11_opens_38 : decode cX11_opens 38 = .ok (.iload_n 2, 1) := by decide +kernel
theorem dX11_opens_39 : decode cX11_opens 39 = .ok (.iastore, 1) := by decide +kernel
theorem dX11_opens_40 : decode cX11_opens 40 = .ok (.aload_n 0, 1) := by decide +kernel
theorem dX11_opens_41 : decode cX11_opens 41 = .ok (.getfield 35, 3) := by decide +kernel
theorem dX11_opens_44 : decode cX11_opens 44 = .ok (.aload_n 0, 1) := by decide +kernel
theorem dX11_opens_45 : decode cX11_opens 45 = .ok (.getfield 171, 3) := by decide +kernel
theorem dX11_opens_48 : decode cX11_opens 48 = .ok (.iload_n 3, 1) := by decide +kernel
theorem dX11_opens_49 : decode cX11_opens 49 = .ok (.iastore, 1) := by decide +kernel
theorem dX11_opens_50 : decode cX11_opens 50 = .ok (.return_, 1) := by decide +kernel
theorem dX11_adds_0 : decode cX11_adds 0 = .ok (.aload_n 0, 1) := by decide +kernel
theorem dX11_adds_1 : decode cX11_adds 1 = .ok (.getfield 29, 3) := by decide +kernel
theorem dX11_adds_4 : decode cX11_adds 4 = .ok (.aload_n 0, 1) := by decide +kernel
theorem dX11_adds_5 : decode cX11_adds 5 = .ok (.getfield 171, 3) := by decide +kernel
theorem dX11_adds_8 : decode cX11_adds 8 = .ok (.aload_n 0, 1) := by decide +kernel
theorem dX11_adds_9 : decode cX11_adds 9 = .ok (.getfield 29, 3) := by decide +kernel
theorem dX11_adds_12 : decode cX11_adds 12 = .ok (.aload_n 0, 1) := by decide +kernel
theorem dX11_adds_13 : decode cX11_adds 13 = .ok (.getfield 171, 3) := by decide +kernel
theorem dX11_adds_16 : decode cX11_adds 16 = .ok (.iaload, 1) := by decide +kernel
theorem dX11_adds_17 : decode cX11_adds 17 = .ok (.ifCond .ge 7, 3) := by decide +kernel
theorem dX11_adds_20 : decode cX11_adds 20 = .ok (.iload_n 1, 1) := by decide +kernel
theorem dX11_adds_21 : decode cX11_adds 21 = .ok (.goto 34, 3) := by decide +kernel
theorem dX11_adds_24 : decode cX11_adds 24 = .ok (.aload_n 0, 1) := by decide +kernel
theorem dX11_adds_25 : decode cX11_adds 25 = .ok (.bipush 6, 2) := by decide +kernel
theorem dX11_adds_27 : decode cX11_adds 27 = .ok (.iconst 0, 1) := by decide +kernel
theorem dX11_adds_28 : decode cX11_adds 28 = .ok (.aload_n 0, 1) := by decide +kernel
theorem dX11_adds_29 : decode cX11_adds 29 = .ok (.getfield 29, 3) := by decide +kernel
theorem dX11_adds_32 : decode cX11_adds 32 = .ok (.aload_n 0, 1) := by decide +kernel
theorem dX11_adds_33 : decode cX11_adds 33 = .ok (.getfield 171, 3) := by decide +kernel
theorem dX11_adds_36 : decode cX11_adds 36 = .ok (.iaload, 1) := by decide +kernel
theorem dX11_adds_37 : decode cX11_adds 37 = .ok (.iload_n 1, 1) := by decide +kernel
theorem dX11_adds_38 : decode cX11_adds 38 = .ok (.aload_n 0, 1) := by decide +kernel
theorem dX11_adds_39 : decode cX11_adds 39 = .ok (.getfield 53, 3) := by decide +kernel
theorem dX11_adds_42 : decode cX11_adds 42 = .ok (.aload_n 0, 1) := by decide +kernel
theorem dX11_adds_43 : decode cX11_adds 43 = .ok (.getfield 29, 3) := by decide +kernel
theorem dX11_adds_46 : decode cX11_adds 46 = .ok (.aload_n 0, 1) := by decide +kernel
theorem dX11_adds_47 : decode cX11_adds 47 = .ok (.getfield 171, 3) := by decide +kernel
theorem dX11_adds_50 : decode cX11_adds 50 = .ok (.iaload, 1) := by decide +kernel
theorem dX11_adds_51 : decode cX11_adds 51 = .ok (.iaload, 1) := by decide +kernel
theorem dX11_adds_52 : decode cX11_adds 52 = .ok (.invokevirtual 174, 3) := by decide +kernel
theorem dX11_adds_55 : decode cX11_adds 55 = .ok (.iastore, 1) := by decide +kernel
theorem dX11_adds_56 : decode cX11_adds 56 = .ok (.return_, 1) := by decide +kernel
theorem dX11_leafKind_0 : decode cX11_leafKind 0 = .ok (.iload_n 0, 1) := by decide +kernel
theorem dX11_leafKind_1 : decode cX11_leafKind 1 = .ok (.invokestatic 178, 3) := by decide +kernel
theorem dX11_leafKind_4 : decode cX11_leafKind 4 = .ok (.ifCond .eq 7, 3) := by decide +kernel
theorem dX11_leafKind_7 : decode cX11_leafKind 7 = .ok (.iconst 0, 1) := by decide +kernel
theorem dX11_leafKind_8 : decode cX11_leafKind 8 = .ok (.goto 52, 3) := by decide +kernel
theorem dX11_leafKind_11 : decode cX11_leafKind 11 = .ok (.iload_n 0, 1) := by decide +kernel
theorem dX11_leafKind_12 : decode cX11_leafKind 12 = .ok (.invokestatic 182, 3) := by decide +kernel
theorem dX11_leafKind_15 : decode cX11_leafKind 15 = .ok (.ifCond .eq 7, 3) := by decide +kernel
theorem dX11_leafKind_18 : decode cX11_leafKind 18 = .ok (.iconst 1, 1) := by decide +kernel
theorem dX11_leafKind_19 : decode cX11_leafKind 19 = .ok (.goto 41, 3) := by decide +kernel
theorem dX11_leafKind_22 : decode cX11_leafKind 22 = .ok (.iload_n 0, 1) := by decide +kernel
theorem dX11_leafKind_23 : decode cX11_leafKind 23 = .ok (.bipush 48, 2) := by decide +kernel
theorem dX11_leafKind_25 : decode cX11_leafKind 25 = .ok (.bipush 57, 2) := by decide +kernel
theorem dX11_leafKind_27 : decode cX11_leafKind 27 = .ok (.invokestatic 164, 3) := by decide +kernel
theorem dX11_leafKind_30 : decode cX11_leafKind 30 = .ok (.ifCond .eq 7, 3) := by decide +kernel
theorem dX11_leafKind_33 : decode cX11_leafKind 33 = .ok (.iconst 2, 1) := by decide +kernel
theorem dX11_leafKind_34 : decode cX11_leafKind 34 = .ok (.goto 26, 3) := by decide +kernel
theorem dX11_leafKind_37 : decode cX11_leafKind 37 = .ok (.iload_n 0, 1) := by decide +kernel
theorem dX11_leafKind_38 : decode cX11_leafKind 38 = .ok (.bipush 43, 2) := by decide +kernel
theorem dX11_leafKind_40 : decode cX11_leafKind 40 = .ok (.if_icmp .eq 15, 3) := by decide +kernel
theorem dX11_leafKind_43 : decode cX11_leafKind 43 = .ok (.iload_n 0, 1) := by decide +kernel
theorem dX11_leafKind_44 : decode cX11_leafKind 44 = .ok (.bipush 60, 2) := by decide +kernel
theorem dX11_leafKind_46 : decode cX11_leafKind 46 = .ok (.if_icmp .eq 9, 3) := by decide +kernel
theorem dX11_leafKind_49 : decode cX11_leafKind 49 = .ok (.iload_n 0, 1) := by decide +kernel
theorem dX11_leafKind_50 : decode cX11_leafKind 50 = .ok (.bipush 63, 2) := by decide +kernel
theorem dX11_leafKind_52 : decode cX11_leafKind 52 = .ok (.if_icmp .ne 7, 3) := by decide +kernel
theorem dX11_leafKind_55 : decode cX11_leafKind 55 = .ok (.iconst 3, 1) := by decide +kernel
theorem dX11_leafKind_56 : decode cX11_leafKind 56 = .ok (.goto 4, 3) := by decide +kernel
theorem dX11_leafKind_59 : decode cX11_leafKind 59 = .ok (.iconst (-1), 1) := by decide +kernel
theorem dX11_leafKind_60 : decode cX11_leafKind 60 = .ok (.ireturn, 1) := by decide +kernel
theorem dX11_closes_0 : decode cX11_closes 0 = .ok (.aload_n 0, 1) := by decide +kernel
theorem dX11_closes_1 : decode cX11_closes 1 = .ok (.getfield 26, 3) := by decide +kernel
theorem dX11_closes_4 : decode cX11_closes 4 = .ok (.aload_n 0, 1) := by decide +kernel
theorem dX11_closes_5 : decode cX11_closes 5 = .ok (.getfield 171, 3) := by decide +kernel
theorem dX11_closes_8 : decode cX11_closes 8 = .ok (.iaload, 1) := by decide +kernel
theorem dX11_closes_9 : decode cX11_closes 9 = .ok (.iconst 2, 1) := by decide +kernel
theorem dX11_closes_10 : decode cX11_closes 10 = .ok (.if_icmp .eq 16, 3) := by decide +kernel
theorem dX11_closes_13 : decode cX11_closes 13 = .ok (.aload_n 0, 1) := by decide +kernel
theorem dX11_closes_14 : decode cX11_closes 14 = .ok (.getfield 26, 3) := by decide +kernel
theorem dX11_closes_17 : decode cX11_closes 17 = .ok (.aload_n 0, 1) := by decide +kernel
theorem dX11_closes_18 : decode cX11_closes 18 = .ok (.getfield 171, 3) := by decide +kernel
theorem dX11_closes_21 : decode cX11_closes 21 = .ok (.iaload, 1) := by decide +kernel
theorem dX11_closes_22 : decode cX11_closes 22 = .ok (.iconst 4, 1) := by decide +kernel
theorem dX11_closes_23 : decode cX11_closes 23 = .ok (.if_icmp .ne 117, 3) := by decide +kernel
theorem dX11_closes_26 : decode cX11_closes 26 = .ok (.aload_n 0, 1) := by decide +kernel
theorem dX11_closes_27 : decode cX11_closes 27 = .ok (.getfield 26, 3) := by decide +kernel
theorem dX11_closes_30 : decode cX11_closes 30 = .ok (.aload_n 0, 1) := by decide +kernel
theorem dX11_closes_31 : decode cX11_closes 31 = .ok (.getfield 171, 3) := by decide +kernel
theorem dX11_closes_34 : decode cX11_closes 34 = .ok (.iaload, 1) := by decide +kernel
theorem dX11_closes_35 : decode cX11_closes 35 = .ok (.iconst 2, 1) := by decide +kernel
theorem dX11_closes_36 : decode cX11_closes 36 = .ok (.if_icmp .ne 39, 3) := by decide +kernel
theorem dX11_closes_39 : decode cX11_closes 39 = .ok (.aload_n 0, 1) := by decide +kernel
theorem dX11_closes_40 : decode cX11_closes 40 = .ok (.iconst 4, 1) := by decide +kernel
theorem dX11_closes_41 : decode cX11_closes 41 = .ok (.aload_n 0, 1) := by decide +kernel
theorem dX11_closes_42 : decode cX11_closes 42 = .ok (.getfield 32, 3) := by decide +kernel
theorem dX11_closes_45 : decode cX11_closes 45 = .ok (.aload_n 0, 1) := by decide +kernel
theorem dX11_closes_46 : decode cX11_closes 46 = .ok (.getfield 171, 3) := by decide +kernel
theorem dX11_closes_49 : decode cX11_closes 49 = .ok (.iaload, 1) := by decide +kernel
theorem dX11_closes_50 : decode cX11_closes 50 = .ok (.aload_n 0, 1) := by decide +kernel
theorem dX11_closes_51 : decode cX11_closes 51 = .ok (.getfield 29, 3) := by decide +kernel
theorem dX11_closes_54 : decode cX11_closes 54 = .ok (.aload_n 0, 1) := by decide +kernel
theorem dX11_closes_55 : decode cX11_closes 55 = .ok (.getfield 171, 3) := by decide +kernel
theorem dX11_closes_58 : decode cX11_closes 58 = .ok (.iaload, 1) := by decide +kernel
theorem dX11_closes_59 : decode cX11_closes 59 = .ok (.iconst (-1), 1) := by decide +kernel
theorem dX11_closes_60 : decode cX11_closes 60 = .ok (.aload_n 0, 1) := by decide +kernel
theorem dX11_closes_61 : decode cX11_closes 61 = .ok (.getfield 35, 3) := by decide +kernel
theorem dX11_closes_64 : decode cX11_closes 64 = .ok (.aload_n 0, 1) := by decide +kernel
theorem dX11_closes_65 : decode cX11_closes 65 = .ok (.getfield 171, 3) := by decide +kernel
theorem dX11_closes_68 : decode cX11_closes 68 = .ok (.iaload, 1) := by decide +kernel
theorem dX11_closes_69 : decode cX11_closes 69 = .ok (.invokevirtual 174, 3) := by decide +kernel
theorem dX11_closes_72 : decode cX11_closes 72 = .ok (.goto 44, 3) := by decide +kernel
theorem dX11_closes_75 : decode cX11_closes 75 = .ok (.aload_n 0, 1) := by decide +kernel
theorem dX11_closes_76 : decode cX11_closes 76 = .ok (.iconst 5, 1) := by decide +kernel
theorem dX11_closes_77 : decode cX11_closes 77 = .ok (.aload_n 0, 1) := by decide +kernel
theorem dX11_closes_78 : decode cX11_closes 78 = .ok (.getfield 32, 3) := by decide +kernel
theorem dX11_closes_81 : decode cX11_closes 81 = .ok (.aload_n 0, 1) := by decide +kernel
theorem dX11_closes_82 : decode cX11_closes 82 = .ok (.getfield 171, 3) := by decide +kernel
theorem dX11_closes_85 : decode cX11_closes 85 = .ok (.iaload, 1) := by decide +kernel
theorem dX11_closes_86 : decode cX11_closes 86 = .ok (.aload_n 0, 1) := by decide +kernel
theorem dX11_closes_87 : decode cX11_closes 87 = .ok (.getfield 38, 3) := by decide +kernel
theorem dX11_closes_90 : decode cX11_closes 90 = .ok (.aload_n 0, 1) := by decide +kernel
theorem dX11_closes_91 : decode cX11_closes 91 = .ok (.getfield 171, 3) := by decide +kernel
theorem dX11_closes_94 : decode cX11_closes 94 = .ok (.iaload, 1) := by decide +kernel
theorem dX11_closes_95 : decode cX11_closes 95 = .ok (.aload_n 0, 1) := by decide +kernel
theorem dX11_closes_96 : decode cX11_closes 96 = .ok (.getfield 29, 3) := by decide +kernel
theorem dX11_closes_99 : decode cX11_closes 99 = .ok (.aload_n 0, 1) := by decide +kernel
theorem dX11_closes_100 : decode cX11_closes 100 = .ok (.getfield 171, 3) := by decide +kernel
theorem dX11_closes_103 : decode cX11_closes 103 = .ok (.iaload, 1) := by decide +kernel
theorem dX11_closes_104 : decode cX11_closes 104 = .ok (.aload_n 0, 1) := by decide +kernel
theorem dX11_closes_105 : decode cX11_closes 105 = .ok (.getfield 35, 3) := by decide +kernel
theorem dX11_closes_108 : decode cX11_closes 108 = .ok (.aload_n 0, 1) := by decide +kernel
theorem dX11_closes_109 : decode cX11_closes 109 = .ok (.getfield 171, 3) := by decide +kernel
theorem dX11_closes_112 : decode cX11_closes 112 = .ok (.iaload, 1) := by decide +kernel
theorem dX11_closes_113 : decode cX11_closes 113 = .ok (.invokevirtual 174, 3) := by decide +kernel
theorem dX11_closes_116 : decode cX11_closes 116 = .ok (.istore_n 1, 1) := by decide +kernel
theorem dX11_closes_117 : decode cX11_closes 117 = .ok (.aload_n 0, 1) := by decide +kernel
theorem dX11_closes_118 : decode cX11_closes 118 = .ok (.dup, 1) := by decide +kernel
theorem dX11_closes_119 : decode cX11_closes 119 = .ok (.getfield 171, 3) := by decide +kernel
theorem dX11_closes_122 : decode cX11_closes 122 = .ok (.iconst 1, 1) := by decide +kernel
theorem dX11_closes_123 : decode cX11_closes 123 = .ok (.isub, 1) := by decide +kernel
theorem dX11_closes_124 : decode cX11_closes 124 = .ok (.putfield 171, 3) := by decide +kernel
theorem dX11_closes_127 : decode cX11_closes 127 = .ok (.aload_n 0, 1) := by decide +kernel
theorem dX11_closes_128 : decode cX11_closes 128 = .ok (.getfield 29, 3) := by decide +kernel
theorem dX11_closes_131 : decode cX11_closes 131 = .ok (.aload_n 0, 1) := by decide +kernel
theorem dX11_closes_132 : decode cX11_closes 132 = .ok (.getfield 171, 3) := by decide +kernel
theorem dX11_closes_135 : decode cX11_closes 135 = .ok (.iload_n 1, 1) := by decide +kernel
theorem dX11_closes_136 : decode cX11_closes 136 = .ok (.iastore, 1) := by decide +kernel
theorem dX11_closes_137 : decode cX11_closes 137 = .ok (.goto (-137), 3) := by decide +kernel
theorem dX11_closes_140 : decode cX11_closes 140 = .ok (.return_, 1) := by decide +kernel
theorem dX11_reads_0 : decode cX11_reads 0 = .ok (.aload_n 0, 1) := by decide +kernel
theorem dX11_reads_1 : decode cX11_reads 1 = .ok (.iconst 0, 1) := by decide +kernel
theorem dX11_reads_2 : decode cX11_reads 2 = .ok (.putfield 168, 3) := by decide +kernel
theorem dX11_reads_5 : decode cX11_reads 5 = .ok (.aload_n 0, 1) := by decide +kernel
theorem dX11_reads_6 : decode cX11_reads 6 = .ok (.iconst (-1), 1) := by decide +kernel
theorem dX11_reads_7 : decode cX11_reads 7 = .ok (.putfield 171, 3) := by decide +kernel
theorem dX11_reads_10 : decode cX11_reads 10 = .ok (.aload_n 0, 1) := by decide +kernel
theorem dX11_reads_11 : decode cX11_reads 11 = .ok (.iconst 0, 1) := by decide +kernel
theorem dX11_reads_12 : decode cX11_reads 12 = .ok (.iconst 0, 1) := by decide +kernel
theorem dX11_reads_13 : decode cX11_reads 13 = .ok (.iconst 0, 1) := by decide +kernel
theorem dX11_reads_14 : decode cX11_reads 14 = .ok (.invokevirtual 185, 3) := by decide +kernel
theorem dX11_reads_17 : decode cX11_reads 17 = .ok (.iconst 0, 1) := by decide +kernel
theorem dX11_reads_18 : decode cX11_reads 18 = .ok (.istore 4, 2) := by decide +kernel
theorem dX11_reads_20 : decode cX11_reads 20 = .ok (.iload 4, 2) := by decide +kernel
theorem dX11_reads_22 : decode cX11_reads 22 = .ok (.iload_n 3, 1) := by decide +kernel
theorem dX11_reads_23 : decode cX11_reads 23 = .ok (.if_icmp .ge 12, 3) := by decide +kernel
theorem dX11_reads_26 : decode cX11_reads 26 = .ok (.aload_n 1, 1) := by decide +kernel
theorem dX11_reads_27 : decode cX11_reads 27 = .ok (.iload_n 2, 1) := by decide +kernel
theorem dX11_reads_28 : decode cX11_reads 28 = .ok (.iload 4, 2) := by decide +kernel
theorem dX11_reads_30 : decode cX11_reads 30 = .ok (.iadd, 1) := by decide +kernel
theorem dX11_reads_31 : decode cX11_reads 31 = .ok (.iaload, 1) := by decide +kernel
theorem dX11_reads_32 : decode cX11_reads 32 = .ok (.goto 4, 3) := by decide +kernel
theorem dX11_reads_35 : decode cX11_reads 35 = .ok (.iconst (-1), 1) := by decide +kernel
theorem dX11_reads_36 : decode cX11_reads 36 = .ok (.istore 5, 2) := by decide +kernel
theorem dX11_reads_38 : decode cX11_reads 38 = .ok (.aload_n 0, 1) := by decide +kernel
theorem dX11_reads_39 : decode cX11_reads 39 = .ok (.getfield 29, 3) := by decide +kernel
theorem dX11_reads_42 : decode cX11_reads 42 = .ok (.aload_n 0, 1) := by decide +kernel
theorem dX11_reads_43 : decode cX11_reads 43 = .ok (.getfield 171, 3) := by decide +kernel
theorem dX11_reads_46 : decode cX11_reads 46 = .ok (.iaload, 1) := by decide +kernel
theorem dX11_reads_47 : decode cX11_reads 47 = .ok (.ifCond .ge 114, 3) := by decide +kernel
theorem dX11_reads_50 : decode cX11_reads 50 = .ok (.iload 5, 2) := by decide +kernel
theorem dX11_reads_52 : decode cX11_reads 52 = .ok (.bipush 94, 2) := by decide +kernel
theorem dX11_reads_54 : decode cX11_reads 54 = .ok (.if_icmp .eq 10, 3) := by decide +kernel
theorem dX11_reads_57 : decode cX11_reads 57 = .ok (.iload 5, 2) := by decide +kernel
theorem dX11_reads_59 : decode cX11_reads 59 = .ok (.bipush 33, 2) := by decide +kernel
theorem dX11_reads_61 : decode cX11_reads 61 = .ok (.if_icmp .ne 100, 3) := by decide +kernel
theorem dX11_reads_64 : decode cX11_reads 64 = .ok (.iload 4, 2) := by decide +kernel
theorem dX11_reads_66 : decode cX11_reads 66 = .ok (.iconst 1, 1) := by decide +kernel
theorem dX11_reads_67 : decode cX11_reads 67 = .ok (.iadd, 1) := by decide +kernel
theorem dX11_reads_68 : decode cX11_reads 68 = .ok (.iload_n 3, 1) := by decide +kernel
theorem dX11_reads_69 : decode cX11_reads 69 = .ok (.if_icmp .ge 17, 3) := by decide +kernel
theorem dX11_reads_72 : decode cX11_reads 72 = .ok (.aload_n 1, 1) := by decide +kernel
theorem dX11_reads_73 : decode cX11_reads 73 = .ok (.iload_n 2, 1) := by decide +kernel
theorem dX11_reads_74 : decode cX11_reads 74 = .ok (.iload 4, 2) := by decide +kernel
theorem dX11_reads_76 : decode cX11_reads 76 = .ok (.iadd, 1) := by decide +kernel
theorem dX11_reads_77 : decode cX11_reads 77 = .ok (.iconst 1, 1) := by decide +kernel
theorem dX11_reads_78 : decode cX11_reads 78 = .ok (.iadd, 1) := by decide +kernel
theorem dX11_reads_79 : decode cX11_reads 79 = .ok (.iaload, 1) := by decide +kernel
theorem dX11_reads_80 : decode cX11_reads 80 = .ok (.invokestatic 178, 3) := by decide +kernel
theorem dX11_reads_83 : decode cX11_reads 83 = .ok (.ifCond .ne 8, 3) := by decide +kernel
theorem dX11_reads_86 : decode cX11_reads 86 = .ok (.iload 4, 2) := by decide +kernel
theorem dX11_reads_88 : decode cX11_reads 88 = .ok (.iconst 1, 1) := by decide +kernel
theorem dX11_reads_89 : decode cX11_reads 89 = .ok (.iadd, 1) := by decide +kernel
theorem dX11_reads_90 : decode cX11_reads 90 = .ok (.ireturn, 1) := by decide +kernel
theorem dX11_reads_91 : decode cX11_reads 91 = .ok (.iload 4, 2) := by decide +kernel
theorem dX11_reads_93 : decode cX11_reads 93 = .ok (.iconst 2, 1) := by decide +kernel
theorem dX11_reads_94 : decode cX11_reads 94 = .ok (.iadd, 1) := by decide +kernel
theorem dX11_reads_95 : decode cX11_reads 95 = .ok (.iload_n 3, 1) := by decide +kernel
theorem dX11_reads_96 : decode cX11_reads 96 = .ok (.if_icmp .ge 28, 3) := by decide +kernel
theorem dX11_reads_99 : decode cX11_reads 99 = .ok (.aload_n 1, 1) := by decide +kernel
theorem dX11_reads_100 : decode cX11_reads 100 = .ok (.iload_n 2, 1) := by decide +kernel
theorem dX11_reads_101 : decode cX11_reads 101 = .ok (.iload 4, 2) := by decide +kernel
theorem dX11_reads_103 : decode cX11_reads 103 = .ok (.iadd, 1) := by decide +kernel
theorem dX11_reads_104 : decode cX11_reads 104 = .ok (.iconst 2, 1) := by decide +kernel
theorem dX11_reads_105 : decode cX11_reads 105 = .ok (.iadd, 1) := by decide +kernel
theorem dX11_reads_106 : decode cX11_reads 106 = .ok (.iaload, 1) := by decide +kernel
theorem dX11_reads_107 : decode cX11_reads 107 = .ok (.iload 5, 2) := by decide +kernel
theorem dX11_reads_109 : decode cX11_reads 109 = .ok (.bipush 94, 2) := by decide +kernel
theorem dX11_reads_111 : decode cX11_reads 111 = .ok (.if_icmp .ne 8, 3) := by decide +kernel
theorem dX11_reads_114 : decode cX11_reads 114 = .ok (.bipush 46, 2) := by decide +kernel
theorem dX11_reads_116 : decode cX11_reads 116 = .ok (.goto 5, 3) := by decide +kernel
theorem dX11_reads_119 : decode cX11_reads 119 = .ok (.bipush 61, 2) := by decide +kernel
theorem dX11_reads_121 : decode cX11_reads 121 = .ok (.if_icmp .eq 8, 3) := by decide +kernel
theorem dX11_reads_124 : decode cX11_reads 124 = .ok (.iload 4, 2) := by decide +kernel
theorem dX11_reads_126 : decode cX11_reads 126 = .ok (.iconst 2, 1) := by decide +kernel
theorem dX11_reads_127 : decode cX11_reads 127 = .ok (.iadd, 1) := by decide +kernel
theorem dX11_reads_128 : decode cX11_reads 128 = .ok (.ireturn, 1) := by decide +kernel
theorem dX11_reads_129 : decode cX11_reads 129 = .ok (.aload_n 0, 1) := by decide +kernel
theorem dX11_reads_130 : decode cX11_reads 130 = .ok (.iload 5, 2) := by decide +kernel
theorem dX11_reads_132 : decode cX11_reads 132 = .ok (.bipush 94, 2) := by decide +kernel
theorem dX11_reads_134 : decode cX11_reads 134 = .ok (.if_icmp .ne 7, 3) := by decide +kernel
theorem dX11_reads_137 : decode cX11_reads 137 = .ok (.iconst 2, 1) := by decide +kernel
theorem dX11_reads_138 : decode cX11_reads 138 = .ok (.goto 4, 3) := by decide +kernel
theorem dX11_reads_141 : decode cX11_reads 141 = .ok (.iconst 3, 1) := by decide +kernel
theorem dX11_reads_142 : decode cX11_reads 142 = .ok (.aload_n 1, 1) := by decide +kernel
theorem dX11_reads_143 : decode cX11_reads 143 = .ok (.iload_n 2, 1) := by decide +kernel
theorem dX11_reads_144 : decode cX11_reads 144 = .ok (.iload 4, 2) := by decide +kernel
theorem dX11_reads_146 : decode cX11_reads 146 = .ok (.iadd, 1) := by decide +kernel
theorem dX11_reads_147 : decode cX11_reads 147 = .ok (.iconst 1, 1) := by decide +kernel
theorem dX11_reads_148 : decode cX11_reads 148 = .ok (.iadd, 1) := by decide +kernel
theorem dX11_reads_149 : decode cX11_reads 149 = .ok (.iaload, 1) := by decide +kernel
theorem dX11_reads_150 : decode cX11_reads 150 = .ok (.iload 4, 2) := by decide +kernel
theorem dX11_reads_152 : decode cX11_reads 152 = .ok (.invokevirtual 185, 3) := by decide +kernel
theorem dX11_reads_155 : decode cX11_reads 155 = .ok (.iinc 4 3, 3) := by decide +kernel
theorem dX11_reads_158 : decode cX11_reads 158 = .ok (.goto (-138), 3) := by decide +kernel
theorem dX11_reads_161 : decode cX11_reads 161 = .ok (.iload 5, 2) := by decide +kernel
theorem dX11_reads_163 : decode cX11_reads 163 = .ok (.bipush 40, 2) := by decide +kernel
theorem dX11_reads_165 : decode cX11_reads 165 = .ok (.if_icmp .ne 17, 3) := by decide +kernel
theorem dX11_reads_168 : decode cX11_reads 168 = .ok (.aload_n 0, 1) := by decide +kernel
theorem dX11_reads_169 : decode cX11_reads 169 = .ok (.iconst 1, 1) := by decide +kernel
theorem dX11_reads_170 : decode cX11_reads 170 = .ok (.iconst 0, 1) := by decide +kernel
theorem dX11_reads_171 : decode cX11_reads 171 = .ok (.iload 4, 2) := by decide +kernel
theorem dX11_reads_173 : decode cX11_reads 173 = .ok (.invokevirtual 185, 3) := by decide +kernel
theorem dX11_reads_176 : decode cX11_reads 176 = .ok (.iinc 4 1, 3) := by decide +kernel
theorem dX11_reads_179 : decode cX11_reads 179 = .ok (.goto (-159), 3) := by decide +kernel
theorem dX11_reads_182 : decode cX11_reads 182 = .ok (.iload 5, 2) := by decide +kernel
theorem dX11_reads_184 : decode cX11_reads 184 = .ok (.invokestatic 189, 3) := by decide +kernel
theorem dX11_reads_187 : decode cX11_reads 187 = .ok (.ifCond .lt 28, 3) := by decide +kernel
theorem dX11_reads_190 : decode cX11_reads 190 = .ok (.aload_n 0, 1) := by decide +kernel
theorem dX11_reads_191 : decode cX11_reads 191 = .ok (.aload_n 0, 1) := by decide +kernel
theorem dX11_reads_192 : decode cX11_reads 192 = .ok (.iload 5, 2) := by decide +kernel
theorem dX11_reads_194 : decode cX11_reads 194 = .ok (.invokestatic 189, 3) := by decide +kernel
theorem dX11_reads_197 : decode cX11_reads 197 = .ok (.iload 5, 2) := by decide +kernel
theorem dX11_reads_199 : decode cX11_reads 199 = .ok (.iconst (-1), 1) := by decide +kernel
theorem dX11_reads_200 : decode cX11_reads 200 = .ok (.iconst (-1), 1) := by decide +kernel
theorem dX11_reads_201 : decode cX11_reads 201 = .ok (.iload 4, 2) := by decide +kernel
theorem dX11_reads_203 : decode cX11_reads 203 = .ok (.invokevirtual 174, 3) := by decide +kernel
theorem dX11_reads_206 : decode cX11_reads 206 = .ok (.invokevirtual 193, 3) := by decide +kernel
theorem dX11_reads_209 : decode cX11_reads 209 = .ok (.iinc 4 1, 3) := by decide +kernel
theorem dX11_reads_212 : decode cX11_reads 212 = .ok (.goto (-192), 3) := by decide +kernel
theorem dX11_reads_215 : decode cX11_reads 215 = .ok (.aload_n 0, 1) := by decide +kernel
theorem dX11_reads_216 : decode cX11_reads 216 = .ok (.getfield 29, 3) := by decide +kernel
theorem dX11_reads_219 : decode cX11_reads 219 = .ok (.aload_n 0, 1) := by decide +kernel
theorem dX11_reads_220 : decode cX11_reads 220 = .ok (.getfield 171, 3) := by decide +kernel
theorem dX11_reads_223 : decode cX11_reads 223 = .ok (.iaload, 1) := by decide +kernel
theorem dX11_reads_224 : decode cX11_reads 224 = .ok (.ifCond .lt 23, 3) := by decide +kernel
theorem dX11_reads_227 : decode cX11_reads 227 = .ok (.iload 5, 2) := by decide +kernel
theorem dX11_reads_229 : decode cX11_reads 229 = .ok (.bipush 41, 2) := by decide +kernel
theorem dX11_reads_231 : decode cX11_reads 231 = .ok (.if_icmp .eq 19, 3) := by decide +kernel
theorem dX11_reads_234 : decode cX11_reads 234 = .ok (.iload 5, 2) := by decide +kernel
theorem dX11_reads_236 : decode cX11_reads 236 = .ok (.bipush 59, 2) := by decide +kernel
theorem dX11_reads_238 : decode cX11_reads 238 = .ok (.if_icmp .eq 12, 3) := by decide +kernel
theorem dX11_reads_241 : decode cX11_reads 241 = .ok (.iload 5, 2) := by decide +kernel
theorem dX11_reads_243 : decode cX11_reads 243 = .ok (.iconst (-1), 1) := by decide +kernel
theorem dX11_reads_244 : decode cX11_reads 244 = .ok (.if_icmp .eq 6, 3) := by decide +kernel
theorem dX11_reads_247 : decode cX11_reads 247 = .ok (.iload 4, 2) := by decide +kernel
theorem dX11_reads_249 : decode cX11_reads 249 = .ok (.ireturn, 1) := by decide +kernel
theorem dX11_reads_250 : decode cX11_reads 250 = .ok (.aload_n 0, 1) := by decide +kernel
theorem dX11_reads_251 : decode cX11_reads 251 = .ok (.invokevirtual 197, 3) := by decide +kernel
theorem dX11_reads_254 : decode cX11_reads 254 = .ok (.aload_n 0, 1) := by decide +kernel
