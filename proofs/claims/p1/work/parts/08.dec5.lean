theorem dJ2_getChars_ba4f3_4 : decode cJ2_getChars_ba4f3 4 = .ok (.ifCond .ge 7, 3) := by decide +kernel
theorem dJ2_getChars_ba4f3_7 : decode cJ2_getChars_ba4f3 7 = .ok (.iconst 1, 1) := by decide +kernel
theorem dJ2_getChars_ba4f3_8 : decode cJ2_getChars_ba4f3 8 = .ok (.goto 4, 3) := by decide +kernel
theorem dJ2_getChars_ba4f3_11 : decode cJ2_getChars_ba4f3 11 = .ok (.iconst 0, 1) := by decide +kernel
theorem dJ2_getChars_ba4f3_12 : decode cJ2_getChars_ba4f3 12 = .ok (.istore 6, 2) := by decide +kernel
theorem dJ2_getChars_ba4f3_14 : decode cJ2_getChars_ba4f3 14 = .ok (.iload 6, 2) := by decide +kernel
theorem dJ2_getChars_ba4f3_16 : decode cJ2_getChars_ba4f3 16 = .ok (.ifCond .ne 6, 3) := by decide +kernel
theorem dJ2_getChars_ba4f3_19 : decode cJ2_getChars_ba4f3 19 = .ok (.iload_n 0, 1) := by decide +kernel
theorem dJ2_getChars_ba4f3_20 : decode cJ2_getChars_ba4f3 20 = .ok (.ineg, 1) := by decide +kernel
theorem dJ2_getChars_ba4f3_21 : decode cJ2_getChars_ba4f3 21 = .ok (.istore_n 0, 1) := by decide +kernel
theorem dJ2_getChars_ba4f3_22 : decode cJ2_getChars_ba4f3 22 = .ok (.iload_n 0, 1) := by decide +kernel
theorem dJ2_getChars_ba4f3_23 : decode cJ2_getChars_ba4f3 23 = .ok (.bipush (-100), 2) := by decide +kernel
theorem dJ2_getChars_ba4f3_25 : decode cJ2_getChars_ba4f3 25 = .ok (.if_icmp .gt 51, 3) := by decide +kernel
theorem dJ2_getChars_ba4f3_28 : decode cJ2_getChars_ba4f3 28 = .ok (.iload_n 0, 1) := by decide +kernel
theorem dJ2_getChars_ba4f3_29 : decode cJ2_getChars_ba4f3 29 = .ok (.bipush 100, 2) := by decide +kernel
theorem dJ2_getChars_ba4f3_31 : decode cJ2_getChars_ba4f3 31 = .ok (.idiv, 1) := by decide +kernel
theorem dJ2_getChars_ba4f3_32 : decode cJ2_getChars_ba4f3 32 = .ok (.istore_n 3, 1) := by decide +kernel
theorem dJ2_getChars_ba4f3_33 : decode cJ2_getChars_ba4f3 33 = .ok (.iload_n 3, 1) := by decide +kernel
theorem dJ2_getChars_ba4f3_34 : decode cJ2_getChars_ba4f3 34 = .ok (.bipush 100, 2) := by decide +kernel
theorem dJ2_getChars_ba4f3_36 : decode cJ2_getChars_ba4f3 36 = .ok (.imul, 1) := by decide +kernel
theorem dJ2_getChars_ba4f3_37 : decode cJ2_getChars_ba4f3 37 = .ok (.iload_n 0, 1) := by decide +kernel
theorem dJ2_getChars_ba4f3_38 : decode cJ2_getChars_ba4f3 38 = .ok (.isub, 1) := by decide +kernel
theorem dJ2_getChars_ba4f3_39 : decode cJ2_getChars_ba4f3 39 = .ok (.istore 4, 2) := by decide +kernel
theorem dJ2_getChars_ba4f3_41 : decode cJ2_getChars_ba4f3 41 = .ok (.iload_n 3, 1) := by decide +kernel
theorem dJ2_getChars_ba4f3_42 : decode cJ2_getChars_ba4f3 42 = .ok (.istore_n 0, 1) := by decide +kernel
theorem dJ2_getChars_ba4f3_43 : decode cJ2_getChars_ba4f3 43 = .ok (.aload_n 2, 1) := by decide +kernel
theorem dJ2_getChars_ba4f3_44 : decode cJ2_getChars_ba4f3 44 = .ok (.iinc 5 (-1), 3) := by decide +kernel
theorem dJ2_getChars_ba4f3_47 : decode cJ2_getChars_ba4f3 47 = .ok (.iload 5, 2) := by decide +kernel
theorem dJ2_getChars_ba4f3_49 : decode cJ2_getChars_ba4f3 49 = .ok (.getstatic 403, 3) := by decide +kernel
theorem dJ2_getChars_ba4f3_52 : decode cJ2_getChars_ba4f3 52 = .ok (.iload 4, 2) := by decide +kernel
theorem dJ2_getChars_ba4f3_54 : decode cJ2_getChars_ba4f3 54 = .ok (.baload, 1) := by decide +kernel
theorem dJ2_getChars_ba4f3_55 : decode cJ2_getChars_ba4f3 55 = .ok (.invokestatic 111, 3) := by decide +kernel
theorem dJ2_getChars_ba4f3_58 : decode cJ2_getChars_ba4f3 58 = .ok (.aload_n 2, 1) := by decide +kernel
theorem dJ2_getChars_ba4f3_59 : decode cJ2_getChars_ba4f3 59 = .ok (.iinc 5 (-1), 3) := by decide +kernel
theorem dJ2_getChars_ba4f3_62 : decode cJ2_getChars_ba4f3 62 = .ok (.iload 5, 2) := by decide +kernel
theorem dJ2_getChars_ba4f3_64 : decode cJ2_getChars_ba4f3 64 = .ok (.getstatic 407, 3) := by decide +kernel
theorem dJ2_getChars_ba4f3_67 : decode cJ2_getChars_ba4f3 67 = .ok (.iload 4, 2) := by decide +kernel
theorem dJ2_getChars_ba4f3_69 : decode cJ2_getChars_ba4f3 69 = .ok (.baload, 1) := by decide +kernel
theorem dJ2_getChars_ba4f3_70 : decode cJ2_getChars_ba4f3 70 = .ok (.invokestatic 111, 3) := by decide +kernel
theorem dJ2_getChars_ba4f3_73 : decode cJ2_getChars_ba4f3 73 = .ok (.goto (-51), 3) := by decide +kernel
theorem dJ2_getChars_ba4f3_76 : decode cJ2_getChars_ba4f3 76 = .ok (.aload_n 2, 1) := by decide +kernel
theorem dJ2_getChars_ba4f3_77 : decode cJ2_getChars_ba4f3 77 = .ok (.iinc 5 (-1), 3) := by decide +kernel
theorem dJ2_getChars_ba4f3_80 : decode cJ2_getChars_ba4f3 80 = .ok (.iload 5, 2) := by decide +kernel
theorem dJ2_getChars_ba4f3_82 : decode cJ2_getChars_ba4f3 82 = .ok (.getstatic 403, 3) := by decide +kernel
theorem dJ2_getChars_ba4f3_85 : decode cJ2_getChars_ba4f3 85 = .ok (.iload_n 0, 1) := by decide +kernel
theorem dJ2_getChars_ba4f3_86 : decode cJ2_getChars_ba4f3 86 = .ok (.ineg, 1) := by decide +kernel
theorem dJ2_getChars_ba4f3_87 : decode cJ2_getChars_ba4f3 87 = .ok (.baload, 1) := by decide +kernel
theorem dJ2_getChars_ba4f3_88 : decode cJ2_getChars_ba4f3 88 = .ok (.invokestatic 111, 3) := by decide +kernel
theorem dJ2_getChars_ba4f3_91 : decode cJ2_getChars_ba4f3 91 = .ok (.iload_n 0, 1) := by decide +kernel
theorem dJ2_getChars_ba4f3_92 : decode cJ2_getChars_ba4f3 92 = .ok (.bipush (-9), 2) := by decide +kernel
theorem dJ2_getChars_ba4f3_94 : decode cJ2_getChars_ba4f3 94 = .ok (.if_icmp .ge 18, 3) := by decide +kernel
theorem dJ2_getChars_ba4f3_97 : decode cJ2_getChars_ba4f3 97 = .ok (.aload_n 2, 1) := by decide +kernel
theorem dJ2_getChars_ba4f3_98 : decode cJ2_getChars_ba4f3 98 = .ok (.iinc 5 (-1), 3) := by decide +kernel
theorem dJ2_getChars_ba4f3_101 : decode cJ2_getChars_ba4f3 101 = .ok (.iload 5, 2) := by decide +kernel
theorem dJ2_getChars_ba4f3_103 : decode cJ2_getChars_ba4f3 103 = .ok (.getstatic 407, 3) := by decide +kernel
theorem dJ2_getChars_ba4f3_106 : decode cJ2_getChars_ba4f3 106 = .ok (.iload_n 0, 1) := by decide +kernel
theorem dJ2_getChars_ba4f3_107 : decode cJ2_getChars_ba4f3 107 = .ok (.ineg, 1) := by decide +kernel
theorem dJ2_getChars_ba4f3_108 : decode cJ2_getChars_ba4f3 108 = .ok (.baload, 1) := by decide +kernel
theorem dJ2_getChars_ba4f3_109 : decode cJ2_getChars_ba4f3 109 = .ok (.invokestatic 111, 3) := by decide +kernel
theorem dJ2_getChars_ba4f3_112 : decode cJ2_getChars_ba4f3 112 = .ok (.iload 6, 2) := by decide +kernel
theorem dJ2_getChars_ba4f3_114 : decode cJ2_getChars_ba4f3 114 = .ok (.ifCond .eq 14, 3) := by decide +kernel
theorem dJ2_getChars_ba4f3_117 : decode cJ2_getChars_ba4f3 117 = .ok (.aload_n 2, 1) := by decide +kernel
theorem dJ2_getChars_ba4f3_118 : decode cJ2_getChars_ba4f3 118 = .ok (.iinc 5 (-1), 3) := by decide +kernel
theorem dJ2_getChars_ba4f3_121 : decode cJ2_getChars_ba4f3 121 = .ok (.iload 5, 2) := by decide +kernel
theorem dJ2_getChars_ba4f3_123 : decode cJ2_getChars_ba4f3 123 = .ok (.bipush 45, 2) := by decide +kernel
theorem dJ2_getChars_ba4f3_125 : decode cJ2_getChars_ba4f3 125 = .ok (.invokestatic 111, 3) := by decide +kernel
theorem dJ2_getChars_ba4f3_128 : decode cJ2_getChars_ba4f3 128 = .ok (.iload 5, 2) := by decide +kernel
theorem dJ2_getChars_ba4f3_130 : decode cJ2_getChars_ba4f3 130 = .ok (.ireturn, 1) := by decide +kernel
theorem dJ2_checkIndex_2214a_0 : decode cJ2_checkIndex_2214a 0 = .ok (.iload_n 0, 1) := by decide +kernel
theorem dJ2_checkIndex_2214a_1 : decode cJ2_checkIndex_2214a 1 = .ok (.aload_n 1, 1) := by decide +kernel
theorem dJ2_checkIndex_2214a_2 : decode cJ2_checkIndex_2214a 2 = .ok (.invokestatic 48, 3) := by decide +kernel
theorem dJ2_checkIndex_2214a_5 : decode cJ2_checkIndex_2214a 5 = .ok (.invokestatic 414, 3) := by decide +kernel
theorem dJ2_checkIndex_2214a_8 : decode cJ2_checkIndex_2214a 8 = .ok (.return_, 1) := by decide +kernel
theorem dJ2_checkBoundsBeginEnd_d044e_0 : decode cJ2_checkBoundsBeginEnd_d044e 0 = .ok (.iload_n 0, 1) := by decide +kernel
theorem dJ2_checkBoundsBeginEnd_d044e_1 : decode cJ2_checkBoundsBeginEnd_d044e 1 = .ok (.iload_n 1, 1) := by decide +kernel
theorem dJ2_checkBoundsBeginEnd_d044e_2 : decode cJ2_checkBoundsBeginEnd_d044e 2 = .ok (.aload_n 2, 1) := by decide +kernel
theorem dJ2_checkBoundsBeginEnd_d044e_3 : decode cJ2_checkBoundsBeginEnd_d044e 3 = .ok (.invokestatic 48, 3) := by decide +kernel
theorem dJ2_checkBoundsBeginEnd_d044e_6 : decode cJ2_checkBoundsBeginEnd_d044e 6 = .ok (.invokestatic 241, 3) := by decide +kernel
theorem dJ2_checkBoundsBeginEnd_d044e_9 : decode cJ2_checkBoundsBeginEnd_d044e 9 = .ok (.return_, 1) := by decide +kernel
theorem dJ2_checkBoundsOffCount_d044e_0 : decode cJ2_checkBoundsOffCount_d044e 0 = .ok (.iload_n 0, 1) := by decide +kernel
theorem dJ2_checkBoundsOffCount_d044e_1 : decode cJ2_checkBoundsOffCount_d044e 1 = .ok (.iload_n 1, 1) := by decide +kernel
theorem dJ2_checkBoundsOffCount_d044e_2 : decode cJ2_checkBoundsOffCount_d044e 2 = .ok (.aload_n 2, 1) := by decide +kernel
theorem dJ2_checkBoundsOffCount_d044e_3 : decode cJ2_checkBoundsOffCount_d044e 3 = .ok (.invokestatic 48, 3) := by decide +kernel
theorem dJ2_checkBoundsOffCount_d044e_6 : decode cJ2_checkBoundsOffCount_d044e 6 = .ok (.invokestatic 419, 3) := by decide +kernel
theorem dJ2_checkBoundsOffCount_d044e_9 : decode cJ2_checkBoundsOffCount_d044e 9 = .ok (.pop, 1) := by decide +kernel
theorem dJ2_checkBoundsOffCount_d044e_10 : decode cJ2_checkBoundsOffCount_d044e 10 = .ok (.return_, 1) := by decide +kernel
theorem dJ7_rangeCheck_23922_0 : decode cJ7_rangeCheck_23922 0 = .ok (.iload_n 1, 1) := by decide +kernel
theorem dJ7_rangeCheck_23922_1 : decode cJ7_rangeCheck_23922 1 = .ok (.iload_n 2, 1) := by decide +kernel
theorem dJ7_rangeCheck_23922_2 : decode cJ7_rangeCheck_23922 2 = .ok (.if_icmp .le 44, 3) := by decide +kernel
theorem dJ7_rangeCheck_23922_5 : decode cJ7_rangeCheck_23922 5 = .ok (.new 43, 3) := by decide +kernel
theorem dJ7_rangeCheck_23922_8 : decode cJ7_rangeCheck_23922 8 = .ok (.dup, 1) := by decide +kernel
theorem dJ7_rangeCheck_23922_9 : decode cJ7_rangeCheck_23922 9 = .ok (.new 45, 3) := by decide +kernel
theorem dJ7_rangeCheck_23922_12 : decode cJ7_rangeCheck_23922 12 = .ok (.dup, 1) := by decide +kernel
theorem dJ7_rangeCheck_23922_13 : decode cJ7_rangeCheck_23922 13 = .ok (.invokespecial 47, 3) := by decide +kernel
theorem dJ7_rangeCheck_23922_16 : decode cJ7_rangeCheck_23922 16 = .ok (.ldc 48, 2) := by decide +kernel
theorem dJ7_rangeCheck_23922_18 : decode cJ7_rangeCheck_23922 18 = .ok (.invokevirtual 50, 3) := by decide +kernel
theorem dJ7_rangeCheck_23922_21 : decode cJ7_rangeCheck_23922 21 = .ok (.iload_n 1, 1) := by decide +kernel
theorem dJ7_rangeCheck_23922_22 : decode cJ7_rangeCheck_23922 22 = .ok (.invokevirtual 54, 3) := by decide +kernel
theorem dJ7_rangeCheck_23922_25 : decode cJ7_rangeCheck_23922 25 = .ok (.ldc 57, 2) := by decide +kernel
theorem dJ7_rangeCheck_23922_27 : decode cJ7_rangeCheck_23922 27 = .ok (.invokevirtual 50, 3) := by decide +kernel
theorem dJ7_rangeCheck_23922_30 : decode cJ7_rangeCheck_23922 30 = .ok (.iload_n 2, 1) := by decide +kernel
theorem dJ7_rangeCheck_23922_31 : decode cJ7_rangeCheck_23922 31 = .ok (.invokevirtual 54, 3) := by decide +kernel
theorem dJ7_rangeCheck_23922_34 : decode cJ7_rangeCheck_23922 34 = .ok (.ldc 59, 2) := by decide +kernel
theorem dJ7_rangeCheck_23922_36 : decode cJ7_rangeCheck_23922 36 = .ok (.invokevirtual 50, 3) := by decide +kernel
theorem dJ7_rangeCheck_23922_39 : decode cJ7_rangeCheck_23922 39 = .ok (.invokevirtual 61, 3) := by decide +kernel
theorem dJ7_rangeCheck_23922_42 : decode cJ7_rangeCheck_23922 42 = .ok (.invokespecial 65, 3) := by decide +kernel
theorem dJ7_rangeCheck_23922_45 : decode cJ7_rangeCheck_23922 45 = .ok (.athrow, 1) := by decide +kernel
theorem dJ7_rangeCheck_23922_46 : decode cJ7_rangeCheck_23922 46 = .ok (.iload_n 1, 1) := by decide +kernel
theorem dJ7_rangeCheck_23922_47 : decode cJ7_rangeCheck_23922 47 = .ok (.ifCond .ge 12, 3) := by decide +kernel
theorem dJ7_rangeCheck_23922_50 : decode cJ7_rangeCheck_23922 50 = .ok (.new 68, 3) := by decide +kernel
theorem dJ7_rangeCheck_23922_53 : decode cJ7_rangeCheck_23922 53 = .ok (.dup, 1) := by decide +kernel
theorem dJ7_rangeCheck_23922_54 : decode cJ7_rangeCheck_23922 54 = .ok (.iload_n 1, 1) := by decide +kernel
theorem dJ7_rangeCheck_23922_55 : decode cJ7_rangeCheck_23922 55 = .ok (.invokespecial 70, 3) := by decide +kernel
theorem dJ7_rangeCheck_23922_58 : decode cJ7_rangeCheck_23922 58 = .ok (.athrow, 1) := by decide +kernel
theorem dJ7_rangeCheck_23922_59 : decode cJ7_rangeCheck_23922 59 = .ok (.iload_n 2, 1) := by decide +kernel
theorem dJ7_rangeCheck_23922_60 : decode cJ7_rangeCheck_23922 60 = .ok (.iload_n 0, 1) := by decide +kernel
theorem dJ7_rangeCheck_23922_61 : decode cJ7_rangeCheck_23922 61 = .ok (.if_icmp .le 12, 3) := by decide +kernel
theorem dJ7_rangeCheck_23922_64 : decode cJ7_rangeCheck_23922 64 = .ok (.new 68, 3) := by decide +kernel
theorem dJ7_rangeCheck_23922_67 : decode cJ7_rangeCheck_23922 67 = .ok (.dup, 1) := by decide +kernel
theorem dJ7_rangeCheck_23922_68 : decode cJ7_rangeCheck_23922 68 = .ok (.iload_n 2, 1) := by decide +kernel
theorem dJ7_rangeCheck_23922_69 : decode cJ7_rangeCheck_23922 69 = .ok (.invokespecial 70, 3) := by decide +kernel
theorem dJ7_rangeCheck_23922_72 : decode cJ7_rangeCheck_23922 72 = .ok (.athrow, 1) := by decide +kernel
theorem dJ7_rangeCheck_23922_73 : decode cJ7_rangeCheck_23922 73 = .ok (.return_, 1) := by decide +kernel
theorem dJ7_fill_53178_0 : decode cJ7_fill_53178 0 = .ok (.iconst 0, 1) := by decide +kernel
theorem dJ7_fill_53178_1 : decode cJ7_fill_53178 1 = .ok (.istore_n 2, 1) := by decide +kernel
theorem dJ7_fill_53178_2 : decode cJ7_fill_53178 2 = .ok (.aload_n 0, 1) := by decide +kernel
theorem dJ7_fill_53178_3 : decode cJ7_fill_53178 3 = .ok (.arraylength, 1) := by decide +kernel
theorem dJ7_fill_53178_4 : decode cJ7_fill_53178 4 = .ok (.istore_n 3, 1) := by decide +kernel
theorem dJ7_fill_53178_5 : decode cJ7_fill_53178 5 = .ok (.iload_n 2, 1) := by decide +kernel
theorem dJ7_fill_53178_6 : decode cJ7_fill_53178 6 = .ok (.iload_n 3, 1) := by decide +kernel
theorem dJ7_fill_53178_7 : decode cJ7_fill_53178 7 = .ok (.if_icmp .ge 13, 3) := by decide +kernel
theorem dJ7_fill_53178_10 : decode cJ7_fill_53178 10 = .ok (.aload_n 0, 1) := by decide +kernel
theorem dJ7_fill_53178_11 : decode cJ7_fill_53178 11 = .ok (.iload_n 2, 1) := by decide +kernel
theorem dJ7_fill_53178_12 : decode cJ7_fill_53178 12 = .ok (.iload_n 1, 1) := by decide +kernel
theorem dJ7_fill_53178_13 : decode cJ7_fill_53178 13 = .ok (.iastore, 1) := by decide +kernel
theorem dJ7_fill_53178_14 : decode cJ7_fill_53178 14 = .ok (.iinc 2 1, 3) := by decide +kernel
theorem dJ7_fill_53178_17 : decode cJ7_fill_53178 17 = .ok (.goto (-12), 3) := by decide +kernel
theorem dJ7_fill_53178_20 : decode cJ7_fill_53178 20 = .ok (.return_, 1) := by decide +kernel
theorem dJ7_fill_eb02e_0 : decode cJ7_fill_eb02e 0 = .ok (.aload_n 0, 1) := by decide +kernel
theorem dJ7_fill_eb02e_1 : decode cJ7_fill_eb02e 1 = .ok (.arraylength, 1) := by decide +kernel
theorem dJ7_fill_eb02e_2 : decode cJ7_fill_eb02e 2 = .ok (.iload_n 1, 1) := by decide +kernel
theorem dJ7_fill_eb02e_3 : decode cJ7_fill_eb02e 3 = .ok (.iload_n 2, 1) := by decide +kernel
theorem dJ7_fill_eb02e_4 : decode cJ7_fill_eb02e 4 = .ok (.invokestatic 13, 3) := by decide +kernel
theorem dJ7_fill_eb02e_7 : decode cJ7_fill_eb02e 7 = .ok (.iload_n 1, 1) := by decide +kernel
theorem dJ7_fill_eb02e_8 : decode cJ7_fill_eb02e 8 = .ok (.istore 4, 2) := by decide +kernel
theorem dJ7_fill_eb02e_10 : decode cJ7_fill_eb02e 10 = .ok (.iload 4, 2) := by decide +kernel
theorem dJ7_fill_eb02e_12 : decode cJ7_fill_eb02e 12 = .ok (.iload_n 2, 1) := by decide +kernel
theorem dJ7_fill_eb02e_13 : decode cJ7_fill_eb02e 13 = .ok (.if_icmp .ge 14, 3) := by decide +kernel
theorem dJ7_fill_eb02e_16 : decode cJ7_fill_eb02e 16 = .ok (.aload_n 0, 1) := by decide +kernel
theorem dJ7_fill_eb02e_17 : decode cJ7_fill_eb02e 17 = .ok (.iload 4, 2) := by decide +kernel
theorem dJ7_fill_eb02e_19 : decode cJ7_fill_eb02e 19 = .ok (.iload_n 3, 1) := by decide +kernel
theorem dJ7_fill_eb02e_20 : decode cJ7_fill_eb02e 20 = .ok (.bastore, 1) := by decide +kernel
theorem dJ7_fill_eb02e_21 : decode cJ7_fill_eb02e 21 = .ok (.iinc 4 1, 3) := by decide +kernel
theorem dJ7_fill_eb02e_24 : decode cJ7_fill_eb02e 24 = .ok (.goto (-14), 3) := by decide +kernel
theorem dJ7_fill_eb02e_27 : decode cJ7_fill_eb02e 27 = .ok (.return_, 1) := by decide +kernel
theorem dJ7_copyOf_9075b_0 : decode cJ7_copyOf_9075b 0 = .ok (.iload_n 1, 1) := by decide +kernel
theorem dJ7_copyOf_9075b_1 : decode cJ7_copyOf_9075b 1 = .ok (.aload_n 0, 1) := by decide +kernel
theorem dJ7_copyOf_9075b_2 : decode cJ7_copyOf_9075b 2 = .ok (.arraylength, 1) := by decide +kernel
theorem dJ7_copyOf_9075b_3 : decode cJ7_copyOf_9075b 3 = .ok (.if_icmp .ne 11, 3) := by decide +kernel
theorem dJ7_copyOf_9075b_6 : decode cJ7_copyOf_9075b 6 = .ok (.aload_n 0, 1) := by decide +kernel
theorem dJ7_copyOf_9075b_7 : decode cJ7_copyOf_9075b 7 = .ok (.invokevirtual 310, 3) := by decide +kernel
theorem dJ7_copyOf_9075b_10 : decode cJ7_copyOf_9075b 10 = .ok (.checkcast 311, 3) := by decide +kernel
theorem dJ7_copyOf_9075b_13 : decode cJ7_copyOf_9075b 13 = .ok (.areturn, 1) := by decide +kernel
theorem dJ7_copyOf_9075b_14 : decode cJ7_copyOf_9075b 14 = .ok (.iload_n 1, 1) := by decide +kernel
theorem dJ7_copyOf_9075b_15 : decode cJ7_copyOf_9075b 15 = .ok (.newarray .byte, 2) := by decide +kernel
theorem dJ7_copyOf_9075b_17 : decode cJ7_copyOf_9075b 17 = .ok (.astore_n 2, 1) := by decide +kernel
theorem dJ7_copyOf_9075b_18 : decode cJ7_copyOf_9075b 18 = .ok (.aload_n 0, 1) := by decide +kernel
theorem dJ7_copyOf_9075b_19 : decode cJ7_copyOf_9075b 19 = .ok (.iconst 0, 1) := by decide +kernel
theorem dJ7_copyOf_9075b_20 : decode cJ7_copyOf_9075b 20 = .ok (.aload_n 2, 1) := by decide +kernel
theorem dJ7_copyOf_9075b_21 : decode cJ7_copyOf_9075b 21 = .ok (.iconst 0, 1) := by decide +kernel
theorem dJ7_copyOf_9075b_22 : decode cJ7_copyOf_9075b 22 = .ok (.aload_n 0, 1) := by decide +kernel
theorem dJ7_copyOf_9075b_23 : decode cJ7_copyOf_9075b 23 = .ok (.arraylength, 1) := by decide +kernel
theorem dJ7_copyOf_9075b_24 : decode cJ7_copyOf_9075b 24 = .ok (.iload_n 1, 1) := by decide +kernel
theorem dJ7_copyOf_9075b_25 : decode cJ7_copyOf_9075b 25 = .ok (.invokestatic 304, 3) := by decide +kernel
theorem dJ7_copyOf_9075b_28 : decode cJ7_copyOf_9075b 28 = .ok (.invokestatic 150, 3) := by decide +kernel
theorem dJ7_copyOf_9075b_31 : decode cJ7_copyOf_9075b 31 = .ok (.aload_n 2, 1) := by decide +kernel
theorem dJ7_copyOf_9075b_32 : decode cJ7_copyOf_9075b 32 = .ok (.areturn, 1) := by decide +kernel
theorem dJ7_copyOf_59c91_0 : decode cJ7_copyOf_59c91 0 = .ok (.iload_n 1, 1) := by decide +kernel
theorem dJ7_copyOf_59c91_1 : decode cJ7_copyOf_59c91 1 = .ok (.aload_n 0, 1) := by decide +kernel
theorem dJ7_copyOf_59c91_2 : decode cJ7_copyOf_59c91 2 = .ok (.arraylength, 1) := by decide +kernel
theorem dJ7_copyOf_59c91_3 : decode cJ7_copyOf_59c91 3 = .ok (.if_icmp .ne 11, 3) := by decide +kernel
theorem dJ7_copyOf_59c91_6 : decode cJ7_copyOf_59c91 6 = .ok (.aload_n 0, 1) := by decide +kernel
theorem dJ7_copyOf_59c91_7 : decode cJ7_copyOf_59c91 7 = .ok (.invokevirtual 316, 3) := by decide +kernel
theorem dJ7_copyOf_59c91_10 : decode cJ7_copyOf_59c91 10 = .ok (.checkcast 317, 3) := by decide +kernel
theorem dJ7_copyOf_59c91_13 : decode cJ7_copyOf_59c91 13 = .ok (.areturn, 1) := by decide +kernel
theorem dJ7_copyOf_59c91_14 : decode cJ7_copyOf_59c91 14 = .ok (.iload_n 1, 1) := by decide +kernel
theorem dJ7_copyOf_59c91_15 : decode cJ7_copyOf_59c91 15 = .ok (.newarray .int, 2) := by decide +kernel
theorem dJ7_copyOf_59c91_17 : decode cJ7_copyOf_59c91 17 = .ok (.astore_n 2, 1) := by decide +kernel
theorem dJ7_copyOf_59c91_18 : decode cJ7_copyOf_59c91 18 = .ok (.aload_n 0, 1) := by decide +kernel
theorem dJ7_copyOf_59c91_19 : decode cJ7_copyOf_59c91 19 = .ok (.iconst 0, 1) := by decide +kernel
theorem dJ7_copyOf_59c91_20 : decode cJ7_copyOf_59c91 20 = .ok (.aload_n 2, 1) := by decide +kernel
theorem dJ7_copyOf_59c91_21 : decode cJ7_copyOf_59c91 21 = .ok (.iconst 0, 1) := by decide +kernel
theorem dJ7_copyOf_59c91_22 : decode cJ7_copyOf_59c91 22 = .ok (.aload_n 0, 1) := by decide +kernel
theorem dJ7_copyOf_59c91_23 : decode cJ7_copyOf_59c91 23 = .ok (.arraylength, 1) := by decide +kernel
theorem dJ7_copyOf_59c91_24 : decode cJ7_copyOf_59c91 24 = .ok (.iload_n 1, 1) := by decide +kernel
theorem dJ7_copyOf_59c91_25 : decode cJ7_copyOf_59c91 25 = .ok (.invokestatic 304, 3) := by decide +kernel
theorem dJ7_copyOf_59c91_28 : decode cJ7_copyOf_59c91 28 = .ok (.invokestatic 150, 3) := by decide +kernel
theorem dJ7_copyOf_59c91_31 : decode cJ7_copyOf_59c91 31 = .ok (.aload_n 2, 1) := by decide +kernel
theorem dJ7_copyOf_59c91_32 : decode cJ7_copyOf_59c91 32 = .ok (.areturn, 1) := by decide +kernel
theorem dJ7_checkLength_df160_0 : decode cJ7_checkLength_df160 0 = .ok (.iload_n 1, 1) := by decide +kernel
theorem dJ7_checkLength_df160_1 : decode cJ7_checkLength_df160 1 = .ok (.iload_n 0, 1) := by decide +kernel
theorem dJ7_checkLength_df160_2 : decode cJ7_checkLength_df160 2 = .ok (.if_icmp .ge 35, 3) := by decide +kernel
theorem dJ7_checkLength_df160_5 : decode cJ7_checkLength_df160 5 = .ok (.new 43, 3) := by decide +kernel
theorem dJ7_checkLength_df160_8 : decode cJ7_checkLength_df160 8 = .ok (.dup, 1) := by decide +kernel
theorem dJ7_checkLength_df160_9 : decode cJ7_checkLength_df160 9 = .ok (.new 45, 3) := by decide +kernel
theorem dJ7_checkLength_df160_12 : decode cJ7_checkLength_df160 12 = .ok (.dup, 1) := by decide +kernel
theorem dJ7_checkLength_df160_13 : decode cJ7_checkLength_df160 13 = .ok (.invokespecial 47, 3) := by decide +kernel
theorem dJ7_checkLength_df160_16 : decode cJ7_checkLength_df160 16 = .ok (.iload_n 0, 1) := by decide +kernel
theorem dJ7_checkLength_df160_17 : decode cJ7_checkLength_df160 17 = .ok (.invokevirtual 54, 3) := by decide +kernel
theorem dJ7_checkLength_df160_20 : decode cJ7_checkLength_df160 20 = .ok (.ldc_w 337, 3) := by decide +kernel
theorem dJ7_checkLength_df160_23 : decode cJ7_checkLength_df160 23 = .ok (.invokevirtual 50, 3) := by decide +kernel
theorem dJ7_checkLength_df160_26 : decode cJ7_checkLength_df160 26 = .ok (.iload_n 1, 1) := by decide +kernel
theorem dJ7_checkLength_df160_27 : decode cJ7_checkLength_df160 27 = .ok (.invokevirtual 54, 3) := by decide +kernel
theorem dJ7_checkLength_df160_30 : decode cJ7_checkLength_df160 30 = .ok (.invokevirtual 61, 3) := by decide +kernel
theorem dJ7_checkLength_df160_33 : decode cJ7_checkLength_df160 33 = .ok (.invokespecial 65, 3) := by decide +kernel
theorem dJ7_checkLength_df160_36 : decode cJ7_checkLength_df160 36 = .ok (.athrow, 1) := by decide +kernel
theorem dJ7_checkLength_df160_37 : decode cJ7_checkLength_df160 37 = .ok (.return_, 1) := by decide +kernel
theorem dJ7_copyOfRange_39247_0 : decode cJ7_copyOfRange_39247 0 = .ok (.iload_n 1, 1) := by decide +kernel
theorem dJ7_copyOfRange_39247_1 : decode cJ7_copyOfRange_39247 1 = .ok (.ifCond .ne 9, 3) := by decide +kernel
theorem dJ7_copyOfRange_39247_4 : decode cJ7_copyOfRange_39247 4 = .ok (.iload_n 2, 1) := by decide +kernel
theorem dJ7_copyOfRange_39247_5 : decode cJ7_copyOfRange_39247 5 = .ok (.aload_n 0, 1) := by decide +kernel
theorem dJ7_copyOfRange_39247_6 : decode cJ7_copyOfRange_39247 6 = .ok (.arraylength, 1) := by decide +kernel
theorem dJ7_copyOfRange_39247_7 : decode cJ7_copyOfRange_39247 7 = .ok (.if_icmp .eq 10, 3) := by decide +kernel
theorem dJ7_copyOfRange_39247_10 : decode cJ7_copyOfRange_39247 10 = .ok (.aload_n 0, 1) := by decide +kernel
theorem dJ7_copyOfRange_39247_11 : decode cJ7_copyOfRange_39247 11 = .ok (.iload_n 1, 1) := by decide +kernel
theorem dJ7_copyOfRange_39247_12 : decode cJ7_copyOfRange_39247 12 = .ok (.iload_n 2, 1) := by decide +kernel
theorem dJ7_copyOfRange_39247_13 : decode cJ7_copyOfRange_39247 13 = .ok (.invokestatic 339, 3) := by decide +kernel
theorem dJ7_copyOfRange_39247_16 : decode cJ7_copyOfRange_39247 16 = .ok (.areturn, 1) := by decide +kernel
theorem dJ7_copyOfRange_39247_17 : decode cJ7_copyOfRange_39247 17 = .ok (.aload_n 0, 1) := by decide +kernel
theorem dJ7_copyOfRange_39247_18 : decode cJ7_copyOfRange_39247 18 = .ok (.invokevirtual 310, 3) := by decide +kernel
theorem dJ7_copyOfRange_39247_21 : decode cJ7_copyOfRange_39247 21 = .ok (.checkcast 311, 3) := by decide +kernel
theorem dJ7_copyOfRange_39247_24 : decode cJ7_copyOfRange_39247 24 = .ok (.areturn, 1) := by decide +kernel
theorem dJ7_copyOfRangeByte_39247_0 : decode cJ7_copyOfRangeByte_39247 0 = .ok (.iload_n 1, 1) := by decide +kernel
theorem dJ7_copyOfRangeByte_39247_1 : decode cJ7_copyOfRangeByte_39247 1 = .ok (.iload_n 2, 1) := by decide +kernel
theorem dJ7_copyOfRangeByte_39247_2 : decode cJ7_copyOfRangeByte_39247 2 = .ok (.invokestatic 343, 3) := by decide +kernel
theorem dJ7_copyOfRangeByte_39247_5 : decode cJ7_copyOfRangeByte_39247 5 = .ok (.iload_n 2, 1) := by decide +kernel
theorem dJ7_copyOfRangeByte_39247_6 : decode cJ7_copyOfRangeByte_39247 6 = .ok (.iload_n 1, 1) := by decide +kernel
theorem dJ7_copyOfRangeByte_39247_7 : decode cJ7_copyOfRangeByte_39247 7 = .ok (.isub, 1) := by decide +kernel
theorem dJ7_copyOfRangeByte_39247_8 : decode cJ7_copyOfRangeByte_39247 8 = .ok (.istore_n 3, 1) := by decide +kernel
theorem dJ7_copyOfRangeByte_39247_9 : decode cJ7_copyOfRangeByte_39247 9 = .ok (.iload_n 3, 1) := by decide +kernel
theorem dJ7_copyOfRangeByte_39247_10 : decode cJ7_copyOfRangeByte_39247 10 = .ok (.newarray .byte, 2) := by decide +kernel
theorem dJ7_copyOfRangeByte_39247_12 : decode cJ7_copyOfRangeByte_39247 12 = .ok (.astore 4, 2) := by decide +kernel
theorem dJ7_copyOfRangeByte_39247_14 : decode cJ7_copyOfRangeByte_39247 14 = .ok (.aload_n 0, 1) := by decide +kernel
theorem dJ7_copyOfRangeByte_39247_15 : decode cJ7_copyOfRangeByte_39247 15 = .ok (.iload_n 1, 1) := by decide +kernel
theorem dJ7_copyOfRangeByte_39247_16 : decode cJ7_copyOfRangeByte_39247 16 = .ok (.aload 4, 2) := by decide +kernel
theorem dJ7_copyOfRangeByte_39247_18 : decode cJ7_copyOfRangeByte_39247 18 = .ok (.iconst 0, 1) := by decide +kernel
theorem dJ7_copyOfRangeByte_39247_19 : decode cJ7_copyOfRangeByte_39247 19 = .ok (.aload_n 0, 1) := by decide +kernel
theorem dJ7_copyOfRangeByte_39247_20 : decode cJ7_copyOfRangeByte_39247 20 = .ok (.arraylength, 1) := by decide +kernel
theorem dJ7_copyOfRangeByte_39247_21 : decode cJ7_copyOfRangeByte_39247 21 = .ok (.iload_n 1, 1) := by decide +kernel
theorem dJ7_copyOfRangeByte_39247_22 : decode cJ7_copyOfRangeByte_39247 22 = .ok (.isub, 1) := by decide +kernel
theorem dJ7_copyOfRangeByte_39247_23 : decode cJ7_copyOfRangeByte_39247 23 = .ok (.iload_n 3, 1) := by decide +kernel
theorem dJ7_copyOfRangeByte_39247_24 : decode cJ7_copyOfRangeByte_39247 24 = .ok (.invokestatic 304, 3) := by decide +kernel
theorem dJ7_copyOfRangeByte_39247_27 : decode cJ7_copyOfRangeByte_39247 27 = .ok (.invokestatic 150, 3) := by decide +kernel
theorem dJ7_copyOfRangeByte_39247_30 : decode cJ7_copyOfRangeByte_39247 30 = .ok (.aload 4, 2) := by decide +kernel
theorem dJ7_copyOfRangeByte_39247_32 : decode cJ7_copyOfRangeByte_39247 32 = .ok (.areturn, 1) := by decide +kernel
theorem dJ8_newLength_cabcc_0 : decode cJ8_newLength_cabcc 0 = .ok (.iload_n 0, 1) := by decide +kernel
theorem dJ8_newLength_cabcc_1 : decode cJ8_newLength_cabcc 1 = .ok (.iload_n 1, 1) := by decide +kernel
theorem dJ8_newLength_cabcc_2 : decode cJ8_newLength_cabcc 2 = .ok (.iload_n 2, 1) := by decide +kernel
theorem dJ8_newLength_cabcc_3 : decode cJ8_newLength_cabcc 3 = .ok (.invokestatic 194, 3) := by decide +kernel
theorem dJ8_newLength_cabcc_6 : decode cJ8_newLength_cabcc 6 = .ok (.iadd, 1) := by decide +kernel
theorem dJ8_newLength_cabcc_7 : decode cJ8_newLength_cabcc 7 = .ok (.istore_n 3, 1) := by decide +kernel
theorem dJ8_newLength_cabcc_8 : decode cJ8_newLength_cabcc 8 = .ok (.iconst 0, 1) := by decide +kernel
theorem dJ8_newLength_cabcc_9 : decode cJ8_newLength_cabcc 9 = .ok (.iload_n 3, 1) := by decide +kernel
theorem dJ8_newLength_cabcc_10 : decode cJ8_newLength_cabcc 10 = .ok (.if_icmp .ge 11, 3) := by decide +kernel
theorem dJ8_newLength_cabcc_13 : decode cJ8_newLength_cabcc 13 = .ok (.iload_n 3, 1) := by decide +kernel
theorem dJ8_newLength_cabcc_14 : decode cJ8_newLength_cabcc 14 = .ok (.ldc 200, 2) := by decide +kernel
theorem dJ8_newLength_cabcc_16 : decode cJ8_newLength_cabcc 16 = .ok (.if_icmp .gt 5, 3) := by decide +kernel
theorem dJ8_newLength_cabcc_19 : decode cJ8_newLength_cabcc 19 = .ok (.iload_n 3, 1) := by decide +kernel
theorem dJ8_newLength_cabcc_20 : decode cJ8_newLength_cabcc 20 = .ok (.ireturn, 1) := by decide +kernel
theorem dJ8_newLength_cabcc_21 : decode cJ8_newLength_cabcc 21 = .ok (.iload_n 0, 1) := by decide +kernel
theorem dJ8_newLength_cabcc_22 : decode cJ8_newLength_cabcc 22 = .ok (.iload_n 1, 1) := by decide +kernel
theorem dJ8_newLength_cabcc_23 : decode cJ8_newLength_cabcc 23 = .ok (.invokestatic 201, 3) := by decide +kernel
theorem dJ8_newLength_cabcc_26 : decode cJ8_newLength_cabcc 26 = .ok (.ireturn, 1) := by decide +kernel
theorem dJ8_hugeLength_7cf53_0 : decode cJ8_hugeLength_7cf53 0 = .ok (.iload_n 0, 1) := by decide +kernel
theorem dJ8_hugeLength_7cf53_1 : decode cJ8_hugeLength_7cf53 1 = .ok (.iload_n 1, 1) := by decide +kernel
theorem dJ8_hugeLength_7cf53_2 : decode cJ8_hugeLength_7cf53 2 = .ok (.iadd, 1) := by decide +kernel
theorem dJ8_hugeLength_7cf53_3 : decode cJ8_hugeLength_7cf53 3 = .ok (.istore_n 2, 1) := by decide +kernel
theorem dJ8_hugeLength_7cf53_4 : decode cJ8_hugeLength_7cf53 4 = .ok (.iload_n 2, 1) := by decide +kernel
theorem dJ8_hugeLength_7cf53_5 : decode cJ8_hugeLength_7cf53 5 = .ok (.ifCond .ge 44, 3) := by decide +kernel
theorem dJ8_hugeLength_7cf53_8 : decode cJ8_hugeLength_7cf53 8 = .ok (.new 204, 3) := by decide +kernel
theorem dJ8_hugeLength_7cf53_11 : decode cJ8_hugeLength_7cf53 11 = .ok (.dup, 1) := by decide +kernel
theorem dJ8_hugeLength_7cf53_12 : decode cJ8_hugeLength_7cf53 12 = .ok (.new 89, 3) := by decide +kernel
theorem dJ8_hugeLength_7cf53_15 : decode cJ8_hugeLength_7cf53 15 = .ok (.dup, 1) := by decide +kernel
theorem dJ8_hugeLength_7cf53_16 : decode cJ8_hugeLength_7cf53 16 = .ok (.invokespecial 91, 3) := by decide +kernel
theorem dJ8_hugeLength_7cf53_19 : decode cJ8_hugeLength_7cf53 19 = .ok (.ldc 206, 2) := by decide +kernel
theorem dJ8_hugeLength_7cf53_21 : decode cJ8_hugeLength_7cf53 21 = .ok (.invokevirtual 94, 3) := by decide +kernel
theorem dJ8_hugeLength_7cf53_24 : decode cJ8_hugeLength_7cf53 24 = .ok (.iload_n 0, 1) := by decide +kernel
theorem dJ8_hugeLength_7cf53_25 : decode cJ8_hugeLength_7cf53 25 = .ok (.invokevirtual 98, 3) := by decide +kernel
theorem dJ8_hugeLength_7cf53_28 : decode cJ8_hugeLength_7cf53 28 = .ok (.ldc 208, 2) := by decide +kernel
theorem dJ8_hugeLength_7cf53_30 : decode cJ8_hugeLength_7cf53 30 = .ok (.invokevirtual 94, 3) := by decide +kernel
theorem dJ8_hugeLength_7cf53_33 : decode cJ8_hugeLength_7cf53 33 = .ok (.iload_n 1, 1) := by decide +kernel
theorem dJ8_hugeLength_7cf53_34 : decode cJ8_hugeLength_7cf53 34 = .ok (.invokevirtual 98, 3) := by decide +kernel
theorem dJ8_hugeLength_7cf53_37 : decode cJ8_hugeLength_7cf53 37 = .ok (.ldc 210, 2) := by decide +kernel
theorem dJ8_hugeLength_7cf53_39 : decode cJ8_hugeLength_7cf53 39 = .ok (.invokevirtual 94, 3) := by decide +kernel
theorem dJ8_hugeLength_7cf53_42 : decode cJ8_hugeLength_7cf53 42 = .ok (.invokevirtual 101, 3) := by decide +kernel
theorem dJ8_hugeLength_7cf53_45 : decode cJ8_hugeLength_7cf53 45 = .ok (.invokespecial 212, 3) := by decide +kernel
theorem dJ8_hugeLength_7cf53_48 : decode cJ8_hugeLength_7cf53 48 = .ok (.athrow, 1) := by decide +kernel
theorem dJ8_hugeLength_7cf53_49 : decode cJ8_hugeLength_7cf53 49 = .ok (.iload_n 2, 1) := by decide +kernel
theorem dJ8_hugeLength_7cf53_50 : decode cJ8_hugeLength_7cf53 50 = .ok (.ldc 200, 2) := by decide +kernel
theorem dJ8_hugeLength_7cf53_52 : decode cJ8_hugeLength_7cf53 52 = .ok (.if_icmp .gt 6, 3) := by decide +kernel
theorem dJ8_hugeLength_7cf53_55 : decode cJ8_hugeLength_7cf53 55 = .ok (.ldc 200, 2) := by decide +kernel
theorem dJ8_hugeLength_7cf53_57 : decode cJ8_hugeLength_7cf53 57 = .ok (.ireturn, 1) := by decide +kernel
theorem dJ8_hugeLength_7cf53_58 : decode cJ8_hugeLength_7cf53 58 = .ok (.iload_n 2, 1) := by decide +kernel
theorem dJ8_hugeLength_7cf53_59 : decode cJ8_hugeLength_7cf53 59 = .ok (.ireturn, 1) := by decide +kernel
theorem dJ3_checkIndex_8e157_0 : decode cJ3_checkIndex_8e157 0 = .ok (.iload_n 0, 1) := by decide +kernel
theorem dJ3_checkIndex_8e157_1 : decode cJ3_checkIndex_8e157 1 = .ok (.ifCond .lt 8, 3) := by decide +kernel
theorem dJ3_checkIndex_8e157_4 : decode cJ3_checkIndex_8e157 4 = .ok (.iload_n 0, 1) := by decide +kernel
theorem dJ3_checkIndex_8e157_5 : decode cJ3_checkIndex_8e157 5 = .ok (.iload_n 1, 1) := by decide +kernel
theorem dJ3_checkIndex_8e157_6 : decode cJ3_checkIndex_8e157 6 = .ok (.if_icmp .lt 10, 3) := by decide +kernel
theorem dJ3_checkIndex_8e157_9 : decode cJ3_checkIndex_8e157 9 = .ok (.aload_n 2, 1) := by decide +kernel
theorem dJ3_checkIndex_8e157_10 : decode cJ3_checkIndex_8e157 10 = .ok (.iload_n 0, 1) := by decide +kernel
theorem dJ3_checkIndex_8e157_11 : decode cJ3_checkIndex_8e157 11 = .ok (.iload_n 1, 1) := by decide +kernel
theorem dJ3_checkIndex_8e157_12 : decode cJ3_checkIndex_8e157 12 = .ok (.invokestatic 95, 3) := by decide +kernel
theorem dJ3_checkIndex_8e157_15 : decode cJ3_checkIndex_8e157 15 = .ok (.athrow, 1) := by decide +kernel
theorem dJ3_checkIndex_8e157_16 : decode cJ3_checkIndex_8e157 16 = .ok (.iload_n 0, 1) := by decide +kernel
theorem dJ3_checkIndex_8e157_17 : decode cJ3_checkIndex_8e157 17 = .ok (.ireturn, 1) := by decide +kernel
theorem dJ3_checkFromToIndex_8c36e_0 : decode cJ3_checkFromToIndex_8c36e 0 = .ok (.iload_n 0, 1) := by decide +kernel
theorem dJ3_checkFromToIndex_8c36e_1 : decode cJ3_checkFromToIndex_8c36e 1 = .ok (.ifCond .lt 13, 3) := by decide +kernel
theorem dJ3_checkFromToIndex_8c36e_4 : decode cJ3_checkFromToIndex_8c36e 4 = .ok (.iload_n 0, 1) := by decide +kernel
theorem dJ3_checkFromToIndex_8c36e_5 : decode cJ3_checkFromToIndex_8c36e 5 = .ok (.iload_n 1, 1) := by decide +kernel
theorem dJ3_checkFromToIndex_8c36e_6 : decode cJ3_checkFromToIndex_8c36e 6 = .ok (.if_icmp .gt 8, 3) := by decide +kernel
theorem dJ3_checkFromToIndex_8c36e_9 : decode cJ3_checkFromToIndex_8c36e 9 = .ok (.iload_n 1, 1) := by decide +kernel
theorem dJ3_checkFromToIndex_8c36e_10 : decode cJ3_checkFromToIndex_8c36e 10 = .ok (.iload_n 2, 1) := by decide +kernel
theorem dJ3_checkFromToIndex_8c36e_11 : decode cJ3_checkFromToIndex_8c36e 11 = .ok (.if_icmp .le 11, 3) := by decide +kernel
theorem dJ3_checkFromToIndex_8c36e_14 : decode cJ3_checkFromToIndex_8c36e 14 = .ok (.aload_n 3, 1) := by decide +kernel
theorem dJ3_checkFromToIndex_8c36e_15 : decode cJ3_checkFromToIndex_8c36e 15 = .ok (.iload_n 0, 1) := by decide +kernel
theorem dJ3_checkFromToIndex_8c36e_16 : decode cJ3_checkFromToIndex_8c36e 16 = .ok (.iload_n 1, 1) := by decide +kernel
theorem dJ3_checkFromToIndex_8c36e_17 : decode cJ3_checkFromToIndex_8c36e 17 = .ok (.iload_n 2, 1) := by decide +kernel
theorem dJ3_checkFromToIndex_8c36e_18 : decode cJ3_checkFromToIndex_8c36e 18 = .ok (.invokestatic 99, 3) := by decide +kernel
theorem dJ3_checkFromToIndex_8c36e_21 : decode cJ3_checkFromToIndex_8c36e 21 = .ok (.athrow, 1) := by decide +kernel
theorem dJ3_checkFromToIndex_8c36e_22 : decode cJ3_checkFromToIndex_8c36e 22 = .ok (.iload_n 0, 1) := by decide +kernel
theorem dJ3_checkFromToIndex_8c36e_23 : decode cJ3_checkFromToIndex_8c36e 23 = .ok (.ireturn, 1) := by decide +kernel
theorem dJ3_checkFromIndexSize_8c36e_0 : decode cJ3_checkFromIndexSize_8c36e 0 = .ok (.iload_n 2, 1) := by decide +kernel
theorem dJ3_checkFromIndexSize_8c36e_1 : decode cJ3_checkFromIndexSize_8c36e 1 = .ok (.iload_n 0, 1) := by decide +kernel
theorem dJ3_checkFromIndexSize_8c36e_2 : decode cJ3_checkFromIndexSize_8c36e 2 = .ok (.ior, 1) := by decide +kernel
theorem dJ3_checkFromIndexSize_8c36e_3 : decode cJ3_checkFromIndexSize_8c36e 3 = .ok (.iload_n 1, 1) := by decide +kernel
theorem dJ3_checkFromIndexSize_8c36e_4 : decode cJ3_checkFromIndexSize_8c36e 4 = .ok (.ior, 1) := by decide +kernel
theorem dJ3_checkFromIndexSize_8c36e_5 : decode cJ3_checkFromIndexSize_8c36e 5 = .ok (.ifCond .lt 10, 3) := by decide +kernel
theorem dJ3_checkFromIndexSize_8c36e_8 : decode cJ3_checkFromIndexSize_8c36e 8 = .ok (.iload_n 1, 1) := by decide +kernel
theorem dJ3_checkFromIndexSize_8c36e_9 : decode cJ3_checkFromIndexSize_8c36e 9 = .ok (.iload_n 2, 1) := by decide +kernel
theorem dJ3_checkFromIndexSize_8c36e_10 : decode cJ3_checkFromIndexSize_8c36e 10 = .ok (.iload_n 0, 1) := by decide +kernel
theorem dJ3_checkFromIndexSize_8c36e_11 : decode cJ3_checkFromIndexSize_8c36e 11 = .ok (.isub, 1) := by decide +kernel
theorem dJ3_checkFromIndexSize_8c36e_12 : decode cJ3_checkFromIndexSize_8c36e 12 = .ok (.if_icmp .le 11, 3) := by decide +kernel
theorem dJ3_checkFromIndexSize_8c36e_15 : decode cJ3_checkFromIndexSize_8c36e 15 = .ok (.aload_n 3, 1) := by decide +kernel
theorem dJ3_checkFromIndexSize_8c36e_16 : decode cJ3_checkFromIndexSize_8c36e 16 = .ok (.iload_n 0, 1) := by decide +kernel
theorem dJ3_checkFromIndexSize_8c36e_17 : decode cJ3_checkFromIndexSize_8c36e 17 = .ok (.iload_n 1, 1) := by decide +kernel
theorem dJ3_checkFromIndexSize_8c36e_18 : decode cJ3_checkFromIndexSize_8c36e 18 = .ok (.iload_n 2, 1) := by decide +kernel
theorem dJ3_checkFromIndexSize_8c36e_19 : decode cJ3_checkFromIndexSize_8c36e 19 = .ok (.invokestatic 103, 3) := by decide +kernel
theorem dJ3_checkFromIndexSize_8c36e_22 : decode cJ3_checkFromIndexSize_8c36e 22 = .ok (.athrow, 1) := by decide +kernel
theorem dJ3_checkFromIndexSize_8c36e_23 : decode cJ3_checkFromIndexSize_8c36e 23 = .ok (.iload_n 0, 1) := by decide +kernel
theorem dJ3_checkFromIndexSize_8c36e_24 : decode cJ3_checkFromIndexSize_8c36e 24 = .ok (.ireturn, 1) := by decide +kernel
theorem dL_lesson_0 : decode cL_lesson 0 = .ok (.aload_n 1, 1) := by decide +kernel
theorem dL_lesson_1 : decode cL_lesson 1 = .ok (.iconst 0, 1) := by decide +kernel
theorem dL_lesson_2 : decode cL_lesson 2 = .ok (.aload_n 0, 1) := by decide +kernel
theorem dL_lesson_3 : decode cL_lesson 3 = .ok (.invokevirtual 7, 3) := by decide +kernel
theorem dL_lesson_6 : decode cL_lesson 6 = .ok (.i2l, 1) := by decide +kernel
theorem dL_lesson_7 : decode cL_lesson 7 = .ok (.lastore, 1) := by decide +kernel
theorem dL_lesson_8 : decode cL_lesson 8 = .ok (.goto 9, 3) := by decide +kernel
theorem dL_lesson_11 : decode cL_lesson 11 = .ok (.astore_n 2, 1) := by decide +kernel
theorem dL_lesson_12 : decode cL_lesson 12 = .ok (.iconst 1, 1) := by decide +kernel
theorem dL_lesson_13 : decode cL_lesson 13 = .ok (.ireturn, 1) := by decide +kernel
theorem dL_lesson_14 : decode cL_lesson 14 = .ok (.astore_n 2, 1) := by decide +kernel
theorem dL_lesson_15 : decode cL_lesson 15 = .ok (.iconst 2, 1) := by decide +kernel
theorem dL_lesson_16 : decode cL_lesson 16 = .ok (.ireturn, 1) := by decide +kernel
theorem dL_lesson_17 : decode cL_lesson 17 = .ok (.iconst 0, 1) := by decide +kernel
theorem dL_lesson_18 : decode cL_lesson 18 = .ok (.ireturn, 1) := by decide +kernel
theorem dL_drop_0 : decode cL_drop 0 = .ok (.aload_n 2, 1) := by decide +kernel
theorem dL_drop_1 : decode cL_drop 1 = .ok (.iconst 0, 1) := by decide +kernel
theorem dL_drop_2 : decode cL_drop 2 = .ok (.aload_n 0, 1) := by decide +kernel
theorem dL_drop_3 : decode cL_drop 3 = .ok (.iload_n 1, 1) := by decide +kernel
theorem dL_drop_4 : decode cL_drop 4 = .ok (.invokevirtual 17, 3) := by decide +kernel
theorem dL_drop_7 : decode cL_drop 7 = .ok (.i2l, 1) := by decide +kernel
theorem dL_drop_8 : decode cL_drop 8 = .ok (.lastore, 1) := by decide +kernel
theorem dL_drop_9 : decode cL_drop 9 = .ok (.goto 6, 3) := by decide +kernel
theorem dL_drop_12 : decode cL_drop 12 = .ok (.astore_n 3, 1) := by decide +kernel
theorem dL_drop_13 : decode cL_drop 13 = .ok (.iconst 1, 1) := by decide +kernel
theorem dL_drop_14 : decode cL_drop 14 = .ok (.ireturn, 1) := by decide +kernel
theorem dL_drop_15 : decode cL_drop 15 = .ok (.iconst 0, 1) := by decide +kernel
theorem dL_drop_16 : decode cL_drop 16 = .ok (.ireturn, 1) := by decide +kernel
theorem dL_keep_0 : decode cL_keep 0 = .ok (.aload_n 3, 1) := by decide +kernel
theorem dL_keep_1 : decode cL_keep 1 = .ok (.iconst 0, 1) := by decide +kernel
theorem dL_keep_2 : decode cL_keep 2 = .ok (.aload_n 0, 1) := by decide +kernel
theorem dL_keep_3 : decode cL_keep 3 = .ok (.iload_n 1, 1) := by decide +kernel
theorem dL_keep_4 : decode cL_keep 4 = .ok (.iload_n 2, 1) := by decide +kernel
theorem dL_keep_5 : decode cL_keep 5 = .ok (.invokevirtual 21, 3) := by decide +kernel
theorem dL_keep_8 : decode cL_keep 8 = .ok (.i2l, 1) := by decide +kernel
theorem dL_keep_9 : decode cL_keep 9 = .ok (.lastore, 1) := by decide +kernel
theorem dL_keep_10 : decode cL_keep 10 = .ok (.goto 7, 3) := by decide +kernel
theorem dL_keep_13 : decode cL_keep 13 = .ok (.astore 4, 2) := by decide +kernel
theorem dL_keep_15 : decode cL_keep 15 = .ok (.iconst 1, 1) := by decide +kernel
theorem dL_keep_16 : decode cL_keep 16 = .ok (.ireturn, 1) := by decide +kernel
theorem dL_keep_17 : decode cL_keep 17 = .ok (.iconst 0, 1) := by decide +kernel
theorem dL_keep_18 : decode cL_keep 18 = .ok (.ireturn, 1) := by decide +kernel
theorem dL_unkeep_0 : decode cL_unkeep 0 = .ok (.aload_n 2, 1) := by decide +kernel
theorem dL_unkeep_1 : decode cL_unkeep 1 = .ok (.iconst 0, 1) := by decide +kernel
theorem dL_unkeep_2 : decode cL_unkeep 2 = .ok (.aload_n 0, 1) := by decide +kernel
theorem dL_unkeep_3 : decode cL_unkeep 3 = .ok (.iload_n 1, 1) := by decide +kernel
theorem dL_unkeep_4 : decode cL_unkeep 4 = .ok (.invokevirtual 25, 3) := by decide +kernel
theorem dL_unkeep_7 : decode cL_unkeep 7 = .ok (.i2l, 1) := by decide +kernel
theorem dL_unkeep_8 : decode cL_unkeep 8 = .ok (.lastore, 1) := by decide +kernel
theorem dL_unkeep_9 : decode cL_unkeep 9 = .ok (.goto 6, 3) := by decide +kernel
theorem dL_unkeep_12 : decode cL_unkeep 12 = .ok (.astore_n 3, 1) := by decide +kernel
theorem dL_unkeep_13 : decode cL_unkeep 13 = .ok (.iconst 1, 1) := by decide +kernel
theorem dL_unkeep_14 : decode cL_unkeep 14 = .ok (.ireturn, 1) := by decide +kernel
theorem dL_unkeep_15 : decode cL_unkeep 15 = .ok (.iconst 0, 1) := by decide +kernel
theorem dL_unkeep_16 : decode cL_unkeep 16 = .ok (.ireturn, 1) := by decide +kernel
theorem dL_nodes_0 : decode cL_nodes 0 = .ok (.aload_n 2, 1) := by decide +kernel
theorem dL_nodes_1 : decode cL_nodes 1 = .ok (.iconst 0, 1) := by decide +kernel
theorem dL_nodes_2 : decode cL_nodes 2 = .ok (.aload_n 0, 1) := by decide +kernel
theorem dL_nodes_3 : decode cL_nodes 3 = .ok (.iload_n 1, 1) := by decide +kernel
theorem dL_nodes_4 : decode cL_nodes 4 = .ok (.invokevirtual 28, 3) := by decide +kernel
theorem dL_nodes_7 : decode cL_nodes 7 = .ok (.i2l, 1) := by decide +kernel
theorem dL_nodes_8 : decode cL_nodes 8 = .ok (.lastore, 1) := by decide +kernel
theorem dL_nodes_9 : decode cL_nodes 9 = .ok (.goto 6, 3) := by decide +kernel
theorem dL_nodes_12 : decode cL_nodes 12 = .ok (.astore_n 3, 1) := by decide +kernel
theorem dL_nodes_13 : decode cL_nodes 13 = .ok (.iconst 1, 1) := by decide +kernel
theorem dL_nodes_14 : decode cL_nodes 14 = .ok (.ireturn, 1) := by decide +kernel
theorem dL_nodes_15 : decode cL_nodes 15 = .ok (.iconst 0, 1) := by decide +kernel
theorem dL_nodes_16 : decode cL_nodes 16 = .ok (.ireturn, 1) := by decide +kernel
theorem dL_nodeOf_0 : decode cL_nodeOf 0 = .ok (.aload 4, 2) := by decide +kernel
theorem dL_nodeOf_2 : decode cL_nodeOf 2 = .ok (.iconst 0, 1) := by decide +kernel
theorem dL_nodeOf_3 : decode cL_nodeOf 3 = .ok (.aload_n 0, 1) := by decide +kernel
theorem dL_nodeOf_4 : decode cL_nodeOf 4 = .ok (.iload_n 1, 1) := by decide +kernel
theorem dL_nodeOf_5 : decode cL_nodeOf 5 = .ok (.iload_n 2, 1) := by decide +kernel
theorem dL_nodeOf_6 : decode cL_nodeOf 6 = .ok (.iload_n 3, 1) := by decide +kernel
theorem dL_nodeOf_7 : decode cL_nodeOf 7 = .ok (.invokevirtual 33, 3) := by decide +kernel
theorem dL_nodeOf_10 : decode cL_nodeOf 10 = .ok (.i2l, 1) := by decide +kernel
theorem dL_nodeOf_11 : decode cL_nodeOf 11 = .ok (.lastore, 1) := by decide +kernel
theorem dL_nodeOf_12 : decode cL_nodeOf 12 = .ok (.goto 11, 3) := by decide +kernel
theorem dL_nodeOf_15 : decode cL_nodeOf 15 = .ok (.astore 5, 2) := by decide +kernel
theorem dL_nodeOf_17 : decode cL_nodeOf 17 = .ok (.iconst 1, 1) := by decide +kernel
theorem dL_nodeOf_18 : decode cL_nodeOf 18 = .ok (.ireturn, 1) := by decide +kernel
theorem dL_nodeOf_19 : decode cL_nodeOf 19 = .ok (.astore 5, 2) := by decide +kernel
theorem dL_nodeOf_21 : decode cL_nodeOf 21 = .ok (.iconst 2, 1) := by decide +kernel
theorem dL_nodeOf_22 : decode cL_nodeOf 22 = .ok (.ireturn, 1) := by decide +kernel
theorem dL_nodeOf_23 : decode cL_nodeOf 23 = .ok (.iconst 0, 1) := by decide +kernel
theorem dL_nodeOf_24 : decode cL_nodeOf 24 = .ok (.ireturn, 1) := by decide +kernel
theorem dL_signOf_0 : decode cL_signOf 0 = .ok (.aload_n 3, 1) := by decide +kernel
theorem dL_signOf_1 : decode cL_signOf 1 = .ok (.iconst 0, 1) := by decide +kernel
theorem dL_signOf_2 : decode cL_signOf 2 = .ok (.aload_n 0, 1) := by decide +kernel
theorem dL_signOf_3 : decode cL_signOf 3 = .ok (.iload_n 1, 1) := by decide +kernel
theorem dL_signOf_4 : decode cL_signOf 4 = .ok (.iload_n 2, 1) := by decide +kernel
theorem dL_signOf_5 : decode cL_signOf 5 = .ok (.invokevirtual 37, 3) := by decide +kernel
theorem dL_signOf_8 : decode cL_signOf 8 = .ok (.i2l, 1) := by decide +kernel
theorem dL_signOf_9 : decode cL_signOf 9 = .ok (.lastore, 1) := by decide +kernel
theorem dL_signOf_10 : decode cL_signOf 10 = .ok (.goto 11, 3) := by decide +kernel
theorem dL_signOf_13 : decode cL_signOf 13 = .ok (.astore 4, 2) := by decide +kernel
theorem dL_signOf_15 : decode cL_signOf 15 = .ok (.iconst 1, 1) := by decide +kernel
theorem dL_signOf_16 : decode cL_signOf 16 = .ok (.ireturn, 1) := by decide +kernel
theorem dL_signOf_17 : decode cL_signOf 17 = .ok (.astore 4, 2) := by decide +kernel
theorem dL_signOf_19 : decode cL_signOf 19 = .ok (.iconst 2, 1) := by decide +kernel
theorem dL_signOf_20 : decode cL_signOf 20 = .ok (.ireturn, 1) := by decide +kernel
theorem dL_signOf_21 : decode cL_signOf 21 = .ok (.iconst 0, 1) := by decide +kernel
theorem dL_signOf_22 : decode cL_signOf 22 = .ok (.ireturn, 1) := by decide +kernel
theorem dL_binder_0 : decode cL_binder 0 = .ok (.aload_n 3, 1) := by decide +kernel
theorem dL_binder_1 : decode cL_binder 1 = .ok (.iconst 0, 1) := by decide +kernel
theorem dL_binder_2 : decode cL_binder 2 = .ok (.aload_n 0, 1) := by decide +kernel
theorem dL_binder_3 : decode cL_binder 3 = .ok (.iload_n 1, 1) := by decide +kernel
theorem dL_binder_4 : decode cL_binder 4 = .ok (.iload_n 2, 1) := by decide +kernel
theorem dL_binder_5 : decode cL_binder 5 = .ok (.invokevirtual 43, 3) := by decide +kernel
theorem dL_binder_8 : decode cL_binder 8 = .ok (.i2l, 1) := by decide +kernel
theorem dL_binder_9 : decode cL_binder 9 = .ok (.lastore, 1) := by decide +kernel
theorem dL_binder_10 : decode cL_binder 10 = .ok (.goto 11, 3) := by decide +kernel
theorem dL_binder_13 : decode cL_binder 13 = .ok (.astore 4, 2) := by decide +kernel
theorem dL_binder_15 : decode cL_binder 15 = .ok (.iconst 1, 1) := by decide +kernel
theorem dL_binder_16 : decode cL_binder 16 = .ok (.ireturn, 1) := by decide +kernel
theorem dL_binder_17 : decode cL_binder 17 = .ok (.astore 4, 2) := by decide +kernel
theorem dL_binder_19 : decode cL_binder 19 = .ok (.iconst 2, 1) := by decide +kernel
theorem dL_binder_20 : decode cL_binder 20 = .ok (.ireturn, 1) := by decide +kernel
theorem dL_binder_21 : decode cL_binder 21 = .ok (.iconst 0, 1) := by decide +kernel
theorem dL_binder_22 : decode cL_binder 22 = .ok (.ireturn, 1) := by decide +kernel
theorem dL_uses_0 : decode cL_uses 0 = .ok (.aload_n 3, 1) := by decide +kernel
theorem dL_uses_1 : decode cL_uses 1 = .ok (.iconst 0, 1) := by decide +kernel
theorem dL_uses_2 : decode cL_uses 2 = .ok (.aload_n 0, 1) := by decide +kernel
theorem dL_uses_3 : decode cL_uses 3 = .ok (.iload_n 1, 1) := by decide +kernel
theorem dL_uses_4 : decode cL_uses 4 = .ok (.iload_n 2, 1) := by decide +kernel
theorem dL_uses_5 : decode cL_uses 5 = .ok (.invokevirtual 46, 3) := by decide +kernel
theorem dL_uses_8 : decode cL_uses 8 = .ok (.i2l, 1) := by decide +kernel
theorem dL_uses_9 : decode cL_uses 9 = .ok (.lastore, 1) := by decide +kernel
theorem dL_uses_10 : decode cL_uses 10 = .ok (.goto 11, 3) := by decide +kernel
theorem dL_uses_13 : decode cL_uses 13 = .ok (.astore 4, 2) := by decide +kernel
theorem dL_uses_15 : decode cL_uses 15 = .ok (.iconst 1, 1) := by decide +kernel
theorem dL_uses_16 : decode cL_uses 16 = .ok (.ireturn, 1) := by decide +kernel
theorem dL_uses_17 : decode cL_uses 17 = .ok (.astore 4, 2) := by decide +kernel
theorem dL_uses_19 : decode cL_uses 19 = .ok (.iconst 2, 1) := by decide +kernel
theorem dL_uses_20 : decode cL_uses 20 = .ok (.ireturn, 1) := by decide +kernel
theorem dL_uses_21 : decode cL_uses 21 = .ok (.iconst 0, 1) := by decide +kernel
theorem dL_uses_22 : decode cL_uses 22 = .ok (.ireturn, 1) := by decide +kernel
theorem dL_unbound_0 : decode cL_unbound 0 = .ok (.aload_n 2, 1) := by decide +kernel
theorem dL_unbound_1 : decode cL_unbound 1 = .ok (.iconst 0, 1) := by decide +kernel
theorem dL_unbound_2 : decode cL_unbound 2 = .ok (.aload_n 0, 1) := by decide +kernel
theorem dL_unbound_3 : decode cL_unbound 3 = .ok (.iload_n 1, 1) := by decide +kernel
theorem dL_unbound_4 : decode cL_unbound 4 = .ok (.invokevirtual 49, 3) := by decide +kernel
theorem dL_unbound_7 : decode cL_unbound 7 = .ok (.i2l, 1) := by decide +kernel
theorem dL_unbound_8 : decode cL_unbound 8 = .ok (.lastore, 1) := by decide +kernel
theorem dL_unbound_9 : decode cL_unbound 9 = .ok (.goto 6, 3) := by decide +kernel
theorem dL_unbound_12 : decode cL_unbound 12 = .ok (.astore_n 3, 1) := by decide +kernel
theorem dL_unbound_13 : decode cL_unbound 13 = .ok (.iconst 1, 1) := by decide +kernel
theorem dL_unbound_14 : decode cL_unbound 14 = .ok (.ireturn, 1) := by decide +kernel
theorem dL_unbound_15 : decode cL_unbound 15 = .ok (.iconst 0, 1) := by decide +kernel
theorem dL_unbound_16 : decode cL_unbound 16 = .ok (.ireturn, 1) := by decide +kernel
theorem dL_isTyped_0 : decode cL_isTyped 0 = .ok (.aload_n 2, 1) := by decide +kernel
theorem dL_isTyped_1 : decode cL_isTyped 1 = .ok (.iconst 0, 1) := by decide +kernel
theorem dL_isTyped_2 : decode cL_isTyped 2 = .ok (.aload_n 0, 1) := by decide +kernel
theorem dL_isTyped_3 : decode cL_isTyped 3 = .ok (.iload_n 1, 1) := by decide +kernel
theorem dL_isTyped_4 : decode cL_isTyped 4 = .ok (.invokevirtual 52, 3) := by decide +kernel
theorem dL_isTyped_7 : decode cL_isTyped 7 = .ok (.ifCond .eq 7, 3) := by decide +kernel
theorem dL_isTyped_10 : decode cL_isTyped 10 = .ok (.lconst 1, 1) := by decide +kernel
theorem dL_isTyped_11 : decode cL_isTyped 11 = .ok (.goto 4, 3) := by decide +kernel
theorem dL_isTyped_14 : decode cL_isTyped 14 = .ok (.lconst 0, 1) := by decide +kernel
theorem dL_isTyped_15 : decode cL_isTyped 15 = .ok (.lastore, 1) := by decide +kernel
theorem dL_isTyped_16 : decode cL_isTyped 16 = .ok (.goto 6, 3) := by decide +kernel
theorem dL_isTyped_19 : decode cL_isTyped 19 = .ok (.astore_n 3, 1) := by decide +kernel
theorem dL_isTyped_20 : decode cL_isTyped 20 = .ok (.iconst 1, 1) := by decide +kernel
theorem dL_isTyped_21 : decode cL_isTyped 21 = .ok (.ireturn, 1) := by decide +kernel
theorem dL_isTyped_22 : decode cL_isTyped 22 = .ok (.iconst 0, 1) := by decide +kernel
theorem dL_isTyped_23 : decode cL_isTyped 23 = .ok (.ireturn, 1) := by decide +kernel
theorem dL_failure_0 : decode cL_failure 0 = .ok (.aload_n 3, 1) := by decide +kernel
theorem dL_failure_1 : decode cL_failure 1 = .ok (.iconst 0, 1) := by decide +kernel
theorem dL_failure_2 : decode cL_failure 2 = .ok (.aload_n 0, 1) := by decide +kernel
theorem dL_failure_3 : decode cL_failure 3 = .ok (.iload_n 1, 1) := by decide +kernel
theorem dL_failure_4 : decode cL_failure 4 = .ok (.iload_n 2, 1) := by decide +kernel
theorem dL_failure_5 : decode cL_failure 5 = .ok (.invokevirtual 56, 3) := by decide +kernel
theorem dL_failure_8 : decode cL_failure 8 = .ok (.i2l, 1) := by decide +kernel
theorem dL_failure_9 : decode cL_failure 9 = .ok (.lastore, 1) := by decide +kernel
theorem dL_failure_10 : decode cL_failure 10 = .ok (.goto 15, 3) := by decide +kernel
theorem dL_failure_13 : decode cL_failure 13 = .ok (.astore 4, 2) := by decide +kernel
theorem dL_failure_15 : decode cL_failure 15 = .ok (.iconst 1, 1) := by decide +kernel
theorem dL_failure_16 : decode cL_failure 16 = .ok (.ireturn, 1) := by decide +kernel
theorem dL_failure_17 : decode cL_failure 17 = .ok (.astore 4, 2) := by decide +kernel
theorem dL_failure_19 : decode cL_failure 19 = .ok (.iconst 2, 1) := by decide +kernel
theorem dL_failure_20 : decode cL_failure 20 = .ok (.ireturn, 1) := by decide +kernel
theorem dL_failure_21 : decode cL_failure 21 = .ok (.astore 4, 2) := by decide +kernel
theorem dL_failure_23 : decode cL_failure 23 = .ok (.iconst 3, 1) := by decide +kernel
theorem dL_failure_24 : decode cL_failure 24 = .ok (.ireturn, 1) := by decide +kernel
theorem dL_failure_25 : decode cL_failure 25 = .ok (.iconst 0, 1) := by decide +kernel
theorem dL_failure_26 : decode cL_failure 26 = .ok (.ireturn, 1) := by decide +kernel
theorem dL_typeOf_0 : decode cL_typeOf 0 = .ok (.aload_n 3, 1) := by decide +kernel
theorem dL_typeOf_1 : decode cL_typeOf 1 = .ok (.iconst 0, 1) := by decide +kernel
theorem dL_typeOf_2 : decode cL_typeOf 2 = .ok (.aload_n 0, 1) := by decide +kernel
theorem dL_typeOf_3 : decode cL_typeOf 3 = .ok (.iload_n 1, 1) := by decide +kernel
theorem dL_typeOf_4 : decode cL_typeOf 4 = .ok (.iload_n 2, 1) := by decide +kernel
theorem dL_typeOf_5 : decode cL_typeOf 5 = .ok (.invokevirtual 59, 3) := by decide +kernel
theorem dL_typeOf_8 : decode cL_typeOf 8 = .ok (.i2l, 1) := by decide +kernel
theorem dL_typeOf_9 : decode cL_typeOf 9 = .ok (.lastore, 1) := by decide +kernel
theorem dL_typeOf_10 : decode cL_typeOf 10 = .ok (.goto 15, 3) := by decide +kernel
theorem dL_typeOf_13 : decode cL_typeOf 13 = .ok (.astore 4, 2) := by decide +kernel
theorem dL_typeOf_15 : decode cL_typeOf 15 = .ok (.iconst 1, 1) := by decide +kernel
theorem dL_typeOf_16 : decode cL_typeOf 16 = .ok (.ireturn, 1) := by decide +kernel
theorem dL_typeOf_17 : decode cL_typeOf 17 = .ok (.astore 4, 2) := by decide +kernel
theorem dL_typeOf_19 : decode cL_typeOf 19 = .ok (.iconst 2, 1) := by decide +kernel
theorem dL_typeOf_20 : decode cL_typeOf 20 = .ok (.ireturn, 1) := by decide +kernel
theorem dL_typeOf_21 : decode cL_typeOf 21 = .ok (.astore 4, 2) := by decide +kernel
theorem dL_typeOf_23 : decode cL_typeOf 23 = .ok (.iconst 3, 1) := by decide +kernel
theorem dL_typeOf_24 : decode cL_typeOf 24 = .ok (.ireturn, 1) := by decide +kernel
theorem dL_typeOf_25 : decode cL_typeOf 25 = .ok (.iconst 0, 1) := by decide +kernel
theorem dL_typeOf_26 : decode cL_typeOf 26 = .ok (.ireturn, 1) := by decide +kernel
theorem dL_typeAgain_0 : decode cL_typeAgain 0 = .ok (.aload_n 3, 1) := by decide +kernel
theorem dL_typeAgain_1 : decode cL_typeAgain 1 = .ok (.iconst 0, 1) := by decide +kernel
theorem dL_typeAgain_2 : decode cL_typeAgain 2 = .ok (.aload_n 0, 1) := by decide +kernel
theorem dL_typeAgain_3 : decode cL_typeAgain 3 = .ok (.iload_n 1, 1) := by decide +kernel
theorem dL_typeAgain_4 : decode cL_typeAgain 4 = .ok (.iload_n 2, 1) := by decide +kernel
theorem dL_typeAgain_5 : decode cL_typeAgain 5 = .ok (.invokevirtual 64, 3) := by decide +kernel
theorem dL_typeAgain_8 : decode cL_typeAgain 8 = .ok (.i2l, 1) := by decide +kernel
theorem dL_typeAgain_9 : decode cL_typeAgain 9 = .ok (.lastore, 1) := by decide +kernel
theorem dL_typeAgain_10 : decode cL_typeAgain 10 = .ok (.goto 15, 3) := by decide +kernel
theorem dL_typeAgain_13 : decode cL_typeAgain 13 = .ok (.astore 4, 2) := by decide +kernel
theorem dL_typeAgain_15 : decode cL_typeAgain 15 = .ok (.iconst 1, 1) := by decide +kernel
theorem dL_typeAgain_16 : decode cL_typeAgain 16 = .ok (.ireturn, 1) := by decide +kernel
theorem dL_typeAgain_17 : decode cL_typeAgain 17 = .ok (.astore 4, 2) := by decide +kernel
theorem dL_typeAgain_19 : decode cL_typeAgain 19 = .ok (.iconst 2, 1) := by decide +kernel
theorem dL_typeAgain_20 : decode cL_typeAgain 20 = .ok (.ireturn, 1) := by decide +kernel
theorem dL_typeAgain_21 : decode cL_typeAgain 21 = .ok (.astore 4, 2) := by decide +kernel
theorem dL_typeAgain_23 : decode cL_typeAgain 23 = .ok (.iconst 3, 1) := by decide +kernel
theorem dL_typeAgain_24 : decode cL_typeAgain 24 = .ok (.ireturn, 1) := by decide +kernel
theorem dL_typeAgain_25 : decode cL_typeAgain 25 = .ok (.iconst 0, 1) := by decide +kernel
theorem dL_typeAgain_26 : decode cL_typeAgain 26 = .ok (.ireturn, 1) := by decide +kernel
theorem dL_nodeType_0 : decode cL_nodeType 0 = .ok (.aload 4, 2) := by decide +kernel
theorem dL_nodeType_2 : decode cL_nodeType 2 = .ok (.iconst 0, 1) := by decide +kernel
theorem dL_nodeType_3 : decode cL_nodeType 3 = .ok (.aload_n 0, 1) := by decide +kernel
theorem dL_nodeType_4 : decode cL_nodeType 4 = .ok (.iload_n 1, 1) := by decide +kernel
theorem dL_nodeType_5 : decode cL_nodeType 5 = .ok (.iload_n 2, 1) := by decide +kernel
theorem dL_nodeType_6 : decode cL_nodeType 6 = .ok (.iload_n 3, 1) := by decide +kernel
theorem dL_nodeType_7 : decode cL_nodeType 7 = .ok (.invokevirtual 67, 3) := by decide +kernel
theorem dL_nodeType_10 : decode cL_nodeType 10 = .ok (.i2l, 1) := by decide +kernel
theorem dL_nodeType_11 : decode cL_nodeType 11 = .ok (.lastore, 1) := by decide +kernel
theorem dL_nodeType_12 : decode cL_nodeType 12 = .ok (.goto 15, 3) := by decide +kernel
theorem dL_nodeType_15 : decode cL_nodeType 15 = .ok (.astore 5, 2) := by decide +kernel
theorem dL_nodeType_17 : decode cL_nodeType 17 = .ok (.iconst 1, 1) := by decide +kernel
theorem dL_nodeType_18 : decode cL_nodeType 18 = .ok (.ireturn, 1) := by decide +kernel
theorem dL_nodeType_19 : decode cL_nodeType 19 = .ok (.astore 5, 2) := by decide +kernel
theorem dL_nodeType_21 : decode cL_nodeType 21 = .ok (.iconst 2, 1) := by decide +kernel
theorem dL_nodeType_22 : decode cL_nodeType 22 = .ok (.ireturn, 1) := by decide +kernel
theorem dL_nodeType_23 : decode cL_nodeType 23 = .ok (.astore 5, 2) := by decide +kernel
theorem dL_nodeType_25 : decode cL_nodeType 25 = .ok (.iconst 3, 1) := by decide +kernel
theorem dL_nodeType_26 : decode cL_nodeType 26 = .ok (.ireturn, 1) := by decide +kernel
theorem dL_nodeType_27 : decode cL_nodeType 27 = .ok (.iconst 0, 1) := by decide +kernel
theorem dL_nodeType_28 : decode cL_nodeType 28 = .ok (.ireturn, 1) := by decide +kernel
theorem dL_isAlike_0 : decode cL_isAlike 0 = .ok (.aload_n 3, 1) := by decide +kernel
theorem dL_isAlike_1 : decode cL_isAlike 1 = .ok (.iconst 0, 1) := by decide +kernel
theorem dL_isAlike_2 : decode cL_isAlike 2 = .ok (.aload_n 0, 1) := by decide +kernel
theorem dL_isAlike_3 : decode cL_isAlike 3 = .ok (.iload_n 1, 1) := by decide +kernel
theorem dL_isAlike_4 : decode cL_isAlike 4 = .ok (.iload_n 2, 1) := by decide +kernel
theorem dL_isAlike_5 : decode cL_isAlike 5 = .ok (.invokevirtual 70, 3) := by decide +kernel
theorem dL_isAlike_8 : decode cL_isAlike 8 = .ok (.ifCond .eq 7, 3) := by decide +kernel
theorem dL_isAlike_11 : decode cL_isAlike 11 = .ok (.lconst 1, 1) := by decide +kernel
theorem dL_isAlike_12 : decode cL_isAlike 12 = .ok (.goto 4, 3) := by decide +kernel
theorem dL_isAlike_15 : decode cL_isAlike 15 = .ok (.lconst 0, 1) := by decide +kernel
theorem dL_isAlike_16 : decode cL_isAlike 16 = .ok (.lastore, 1) := by decide +kernel
theorem dL_isAlike_17 : decode cL_isAlike 17 = .ok (.goto 11, 3) := by decide +kernel
theorem dL_isAlike_20 : decode cL_isAlike 20 = .ok (.astore 4, 2) := by decide +kernel
theorem dL_isAlike_22 : decode cL_isAlike 22 = .ok (.iconst 1, 1) := by decide +kernel
theorem dL_isAlike_23 : decode cL_isAlike 23 = .ok (.ireturn, 1) := by decide +kernel
theorem dL_isAlike_24 : decode cL_isAlike 24 = .ok (.astore 4, 2) := by decide +kernel
theorem dL_isAlike_26 : decode cL_isAlike 26 = .ok (.iconst 2, 1) := by decide +kernel
theorem dL_isAlike_27 : decode cL_isAlike 27 = .ok (.ireturn, 1) := by decide +kernel
theorem dL_isAlike_28 : decode cL_isAlike 28 = .ok (.iconst 0, 1) := by decide +kernel
theorem dL_isAlike_29 : decode cL_isAlike 29 = .ok (.ireturn, 1) := by decide +kernel
theorem dL_isAsGeneral_0 : decode cL_isAsGeneral 0 = .ok (.aload_n 3, 1) := by decide +kernel
theorem dL_isAsGeneral_1 : decode cL_isAsGeneral 1 = .ok (.iconst 0, 1) := by decide +kernel
theorem dL_isAsGeneral_2 : decode cL_isAsGeneral 2 = .ok (.aload_n 0, 1) := by decide +kernel
theorem dL_isAsGeneral_3 : decode cL_isAsGeneral 3 = .ok (.iload_n 1, 1) := by decide +kernel
theorem dL_isAsGeneral_4 : decode cL_isAsGeneral 4 = .ok (.iload_n 2, 1) := by decide +kernel
theorem dL_isAsGeneral_5 : decode cL_isAsGeneral 5 = .ok (.invokevirtual 74, 3) := by decide +kernel
theorem dL_isAsGeneral_8 : decode cL_isAsGeneral 8 = .ok (.ifCond .eq 7, 3) := by decide +kernel
theorem dL_isAsGeneral_11 : decode cL_isAsGeneral 11 = .ok (.lconst 1, 1) := by decide +kernel
theorem dL_isAsGeneral_12 : decode cL_isAsGeneral 12 = .ok (.goto 4, 3) := by decide +kernel
theorem dL_isAsGeneral_15 : decode cL_isAsGeneral 15 = .ok (.lconst 0, 1) := by decide +kernel
theorem dL_isAsGeneral_16 : decode cL_isAsGeneral 16 = .ok (.lastore, 1) := by decide +kernel
theorem dL_isAsGeneral_17 : decode cL_isAsGeneral 17 = .ok (.goto 11, 3) := by decide +kernel
theorem dL_isAsGeneral_20 : decode cL_isAsGeneral 20 = .ok (.astore 4, 2) := by decide +kernel
theorem dL_isAsGeneral_22 : decode cL_isAsGeneral 22 = .ok (.iconst 1, 1) := by decide +kernel
theorem dL_isAsGeneral_23 : decode cL_isAsGeneral 23 = .ok (.ireturn, 1) := by decide +kernel
theorem dL_isAsGeneral_24 : decode cL_isAsGeneral 24 = .ok (.astore 4, 2) := by decide +kernel
theorem dL_isAsGeneral_26 : decode cL_isAsGeneral 26 = .ok (.iconst 2, 1) := by decide +kernel
theorem dL_isAsGeneral_27 : decode cL_isAsGeneral 27 = .ok (.ireturn, 1) := by decide +kernel
theorem dL_isAsGeneral_28 : decode cL_isAsGeneral 28 = .ok (.iconst 0, 1) := by decide +kernel
theorem dL_isAsGeneral_29 : decode cL_isAsGeneral 29 = .ok (.ireturn, 1) := by decide +kernel
theorem dL_fit_0 : decode cL_fit 0 = .ok (.aload_n 3, 1) := by decide +kernel
theorem dL_fit_1 : decode cL_fit 1 = .ok (.iconst 0, 1) := by decide +kernel
theorem dL_fit_2 : decode cL_fit 2 = .ok (.aload_n 0, 1) := by decide +kernel
theorem dL_fit_3 : decode cL_fit 3 = .ok (.iload_n 1, 1) := by decide +kernel
theorem dL_fit_4 : decode cL_fit 4 = .ok (.iload_n 2, 1) := by decide +kernel
theorem dL_fit_5 : decode cL_fit 5 = .ok (.invokevirtual 77, 3) := by decide +kernel
theorem dL_fit_8 : decode cL_fit 8 = .ok (.i2l, 1) := by decide +kernel
theorem dL_fit_9 : decode cL_fit 9 = .ok (.lastore, 1) := by decide +kernel
theorem dL_fit_10 : decode cL_fit 10 = .ok (.goto 15, 3) := by decide +kernel
theorem dL_fit_13 : decode cL_fit 13 = .ok (.astore 4, 2) := by decide +kernel
theorem dL_fit_15 : decode cL_fit 15 = .ok (.iconst 1, 1) := by decide +kernel
theorem dL_fit_16 : decode cL_fit 16 = .ok (.ireturn, 1) := by decide +kernel
theorem dL_fit_17 : decode cL_fit 17 = .ok (.astore 4, 2) := by decide +kernel
theorem dL_fit_19 : decode cL_fit 19 = .ok (.iconst 2, 1) := by decide +kernel
theorem dL_fit_20 : decode cL_fit 20 = .ok (.ireturn, 1) := by decide +kernel
theorem dL_fit_21 : decode cL_fit 21 = .ok (.astore 4, 2) := by decide +kernel
theorem dL_fit_23 : decode cL_fit 23 = .ok (.iconst 3, 1) := by decide +kernel
theorem dL_fit_24 : decode cL_fit 24 = .ok (.ireturn, 1) := by decide +kernel
theorem dL_fit_25 : decode cL_fit 25 = .ok (.iconst 0, 1) := by decide +kernel
theorem dL_fit_26 : decode cL_fit 26 = .ok (.ireturn, 1) := by decide +kernel
theorem dL_fitting_0 : decode cL_fitting 0 = .ok (.aload_n 2, 1) := by decide +kernel
theorem dL_fitting_1 : decode cL_fitting 1 = .ok (.iconst 0, 1) := by decide +kernel
theorem dL_fitting_2 : decode cL_fitting 2 = .ok (.aload_n 0, 1) := by decide +kernel
theorem dL_fitting_3 : decode cL_fitting 3 = .ok (.iload_n 1, 1) := by decide +kernel
theorem dL_fitting_4 : decode cL_fitting 4 = .ok (.invokevirtual 80, 3) := by decide +kernel
theorem dL_fitting_7 : decode cL_fitting 7 = .ok (.i2l, 1) := by decide +kernel
theorem dL_fitting_8 : decode cL_fitting 8 = .ok (.lastore, 1) := by decide +kernel
theorem dL_fitting_9 : decode cL_fitting 9 = .ok (.goto 9, 3) := by decide +kernel
theorem dL_fitting_12 : decode cL_fitting 12 = .ok (.astore_n 3, 1) := by decide +kernel
theorem dL_fitting_13 : decode cL_fitting 13 = .ok (.iconst 1, 1) := by decide +kernel
theorem dL_fitting_14 : decode cL_fitting 14 = .ok (.ireturn, 1) := by decide +kernel
theorem dL_fitting_15 : decode cL_fitting 15 = .ok (.astore_n 3, 1) := by decide +kernel
theorem dL_fitting_16 : decode cL_fitting 16 = .ok (.iconst 2, 1) := by decide +kernel
theorem dL_fitting_17 : decode cL_fitting 17 = .ok (.ireturn, 1) := by decide +kernel
theorem dL_fitting_18 : decode cL_fitting 18 = .ok (.iconst 0, 1) := by decide +kernel
theorem dL_fitting_19 : decode cL_fitting 19 = .ok (.ireturn, 1) := by decide +kernel
theorem dL_isKept_0 : decode cL_isKept 0 = .ok (.aload_n 2, 1) := by decide +kernel
theorem dL_isKept_1 : decode cL_isKept 1 = .ok (.iconst 0, 1) := by decide +kernel
theorem dL_isKept_2 : decode cL_isKept 2 = .ok (.aload_n 0, 1) := by decide +kernel
theorem dL_isKept_3 : decode cL_isKept 3 = .ok (.iload_n 1, 1) := by decide +kernel
theorem dL_isKept_4 : decode cL_isKept 4 = .ok (.invokevirtual 83, 3) := by decide +kernel
theorem dL_isKept_7 : decode cL_isKept 7 = .ok (.ifCond .eq 7, 3) := by decide +kernel
theorem dL_isKept_10 : decode cL_isKept 10 = .ok (.lconst 1, 1) := by decide +kernel
theorem dL_isKept_11 : decode cL_isKept 11 = .ok (.goto 4, 3) := by decide +kernel
theorem dL_isKept_14 : decode cL_isKept 14 = .ok (.lconst 0, 1) := by decide +kernel
theorem dL_isKept_15 : decode cL_isKept 15 = .ok (.lastore, 1) := by decide +kernel
theorem dL_isKept_16 : decode cL_isKept 16 = .ok (.goto 6, 3) := by decide +kernel
theorem dL_isKept_19 : decode cL_isKept 19 = .ok (.astore_n 3, 1) := by decide +kernel
theorem dL_isKept_20 : decode cL_isKept 20 = .ok (.iconst 1, 1) := by decide +kernel
theorem dL_isKept_21 : decode cL_isKept 21 = .ok (.ireturn, 1) := by decide +kernel
theorem dL_isKept_22 : decode cL_isKept 22 = .ok (.iconst 0, 1) := by decide +kernel
theorem dL_isKept_23 : decode cL_isKept 23 = .ok (.ireturn, 1) := by decide +kernel
theorem dL_largest_0 : decode cL_largest 0 = .ok (.aload_n 1, 1) := by decide +kernel
theorem dL_largest_1 : decode cL_largest 1 = .ok (.iconst 0, 1) := by decide +kernel
theorem dL_largest_2 : decode cL_largest 2 = .ok (.aload_n 0, 1) := by decide +kernel
theorem dL_largest_3 : decode cL_largest 3 = .ok (.invokevirtual 86, 3) := by decide +kernel
theorem dL_largest_6 : decode cL_largest 6 = .ok (.i2l, 1) := by decide +kernel
theorem dL_largest_7 : decode cL_largest 7 = .ok (.lastore, 1) := by decide +kernel
theorem dL_largest_8 : decode cL_largest 8 = .ok (.goto 6, 3) := by decide +kernel
theorem dL_largest_11 : decode cL_largest 11 = .ok (.astore_n 2, 1) := by decide +kernel
theorem dL_largest_12 : decode cL_largest 12 = .ok (.iconst 1, 1) := by decide +kernel
theorem dL_largest_13 : decode cL_largest 13 = .ok (.ireturn, 1) := by decide +kernel
theorem dL_largest_14 : decode cL_largest 14 = .ok (.iconst 0, 1) := by decide +kernel
theorem dL_largest_15 : decode cL_largest 15 = .ok (.ireturn, 1) := by decide +kernel
theorem dL_ranked_0 : decode cL_ranked 0 = .ok (.aload_n 2, 1) := by decide +kernel
theorem dL_ranked_1 : decode cL_ranked 1 = .ok (.iconst 0, 1) := by decide +kernel
theorem dL_ranked_2 : decode cL_ranked 2 = .ok (.aload_n 0, 1) := by decide +kernel
theorem dL_ranked_3 : decode cL_ranked 3 = .ok (.iload_n 1, 1) := by decide +kernel
theorem dL_ranked_4 : decode cL_ranked 4 = .ok (.invokevirtual 89, 3) := by decide +kernel
theorem dL_ranked_7 : decode cL_ranked 7 = .ok (.i2l, 1) := by decide +kernel
theorem dL_ranked_8 : decode cL_ranked 8 = .ok (.lastore, 1) := by decide +kernel
theorem dL_ranked_9 : decode cL_ranked 9 = .ok (.goto 6, 3) := by decide +kernel
theorem dL_ranked_12 : decode cL_ranked 12 = .ok (.astore_n 3, 1) := by decide +kernel
theorem dL_ranked_13 : decode cL_ranked 13 = .ok (.iconst 1, 1) := by decide +kernel
theorem dL_ranked_14 : decode cL_ranked 14 = .ok (.ireturn, 1) := by decide +kernel
theorem dL_ranked_15 : decode cL_ranked 15 = .ok (.iconst 0, 1) := by decide +kernel
theorem dL_ranked_16 : decode cL_ranked 16 = .ok (.ireturn, 1) := by decide +kernel
theorem dL_append_0 : decode cL_append 0 = .ok (.aload_n 2, 1) := by decide +kernel
theorem dL_append_1 : decode cL_append 1 = .ok (.iconst 0, 1) := by decide +kernel
theorem dL_append_2 : decode cL_append 2 = .ok (.aload_n 0, 1) := by decide +kernel
theorem dL_append_3 : decode cL_append 3 = .ok (.iload_n 1, 1) := by decide +kernel
theorem dL_append_4 : decode cL_append 4 = .ok (.invokevirtual 92, 3) := by decide +kernel
theorem dL_append_7 : decode cL_append 7 = .ok (.i2l, 1) := by decide +kernel
theorem dL_append_8 : decode cL_append 8 = .ok (.lastore, 1) := by decide +kernel
theorem dL_append_9 : decode cL_append 9 = .ok (.goto 9, 3) := by decide +kernel
theorem dL_append_12 : decode cL_append 12 = .ok (.astore_n 3, 1) := by decide +kernel
theorem dL_append_13 : decode cL_append 13 = .ok (.iconst 1, 1) := by decide +kernel
theorem dL_append_14 : decode cL_append 14 = .ok (.ireturn, 1) := by decide +kernel
theorem dL_append_15 : decode cL_append 15 = .ok (.astore_n 3, 1) := by decide +kernel
theorem dL_append_16 : decode cL_append 16 = .ok (.iconst 2, 1) := by decide +kernel
theorem dL_append_17 : decode cL_append 17 = .ok (.ireturn, 1) := by decide +kernel
theorem dL_append_18 : decode cL_append 18 = .ok (.iconst 0, 1) := by decide +kernel
theorem dL_append_19 : decode cL_append 19 = .ok (.ireturn, 1) := by decide +kernel
theorem dL_run_0 : decode cL_run 0 = .ok (.aload_n 1, 1) := by decide +kernel
theorem dL_run_1 : decode cL_run 1 = .ok (.iconst 0, 1) := by decide +kernel
theorem dL_run_2 : decode cL_run 2 = .ok (.aload_n 0, 1) := by decide +kernel
theorem dL_run_3 : decode cL_run 3 = .ok (.invokevirtual 96, 3) := by decide +kernel
theorem dL_run_6 : decode cL_run 6 = .ok (.i2l, 1) := by decide +kernel
theorem dL_run_7 : decode cL_run 7 = .ok (.lastore, 1) := by decide +kernel
theorem dL_run_8 : decode cL_run 8 = .ok (.goto 9, 3) := by decide +kernel
theorem dL_run_11 : decode cL_run 11 = .ok (.astore_n 2, 1) := by decide +kernel
theorem dL_run_12 : decode cL_run 12 = .ok (.iconst 1, 1) := by decide +kernel
theorem dL_run_13 : decode cL_run 13 = .ok (.ireturn, 1) := by decide +kernel
theorem dL_run_14 : decode cL_run 14 = .ok (.astore_n 2, 1) := by decide +kernel
theorem dL_run_15 : decode cL_run 15 = .ok (.iconst 2, 1) := by decide +kernel
theorem dL_run_16 : decode cL_run 16 = .ok (.ireturn, 1) := by decide +kernel
theorem dL_run_17 : decode cL_run 17 = .ok (.iconst 0, 1) := by decide +kernel
theorem dL_run_18 : decode cL_run 18 = .ok (.ireturn, 1) := by decide +kernel
theorem dL_reason_0 : decode cL_reason 0 = .ok (.aload_n 3, 1) := by decide +kernel
theorem dL_reason_1 : decode cL_reason 1 = .ok (.iconst 0, 1) := by decide +kernel
theorem dL_reason_2 : decode cL_reason 2 = .ok (.aload_n 0, 1) := by decide +kernel
theorem dL_reason_3 : decode cL_reason 3 = .ok (.iload_n 1, 1) := by decide +kernel
theorem dL_reason_4 : decode cL_reason 4 = .ok (.iload_n 2, 1) := by decide +kernel
theorem dL_reason_5 : decode cL_reason 5 = .ok (.invokevirtual 99, 3) := by decide +kernel
theorem dL_reason_8 : decode cL_reason 8 = .ok (.i2l, 1) := by decide +kernel
theorem dL_reason_9 : decode cL_reason 9 = .ok (.lastore, 1) := by decide +kernel
theorem dL_reason_10 : decode cL_reason 10 = .ok (.goto 11, 3) := by decide +kernel
theorem dL_reason_13 : decode cL_reason 13 = .ok (.astore 4, 2) := by decide +kernel
theorem dL_reason_15 : decode cL_reason 15 = .ok (.iconst 1, 1) := by decide +kernel
theorem dL_reason_16 : decode cL_reason 16 = .ok (.ireturn, 1) := by decide +kernel
theorem dL_reason_17 : decode cL_reason 17 = .ok (.astore 4, 2) := by decide +kernel
theorem dL_reason_19 : decode cL_reason 19 = .ok (.iconst 2, 1) := by decide +kernel
theorem dL_reason_20 : decode cL_reason 20 = .ok (.ireturn, 1) := by decide +kernel
theorem dL_reason_21 : decode cL_reason 21 = .ok (.iconst 0, 1) := by decide +kernel
theorem dL_reason_22 : decode cL_reason 22 = .ok (.ireturn, 1) := by decide +kernel
theorem dL_tell_0 : decode cL_tell 0 = .ok (.aload_n 2, 1) := by decide +kernel
theorem dL_tell_1 : decode cL_tell 1 = .ok (.iconst 0, 1) := by decide +kernel
theorem dL_tell_2 : decode cL_tell 2 = .ok (.aload_n 0, 1) := by decide +kernel
theorem dL_tell_3 : decode cL_tell 3 = .ok (.iload_n 1, 1) := by decide +kernel
theorem dL_tell_4 : decode cL_tell 4 = .ok (.invokevirtual 103, 3) := by decide +kernel
theorem dL_tell_7 : decode cL_tell 7 = .ok (.i2l, 1) := by decide +kernel
theorem dL_tell_8 : decode cL_tell 8 = .ok (.lastore, 1) := by decide +kernel
theorem dL_tell_9 : decode cL_tell 9 = .ok (.goto 9, 3) := by decide +kernel
theorem dL_tell_12 : decode cL_tell 12 = .ok (.astore_n 3, 1) := by decide +kernel
theorem dL_tell_13 : decode cL_tell 13 = .ok (.iconst 1, 1) := by decide +kernel
theorem dL_tell_14 : decode cL_tell 14 = .ok (.ireturn, 1) := by decide +kernel
theorem dL_tell_15 : decode cL_tell 15 = .ok (.astore_n 3, 1) := by decide +kernel
theorem dL_tell_16 : decode cL_tell 16 = .ok (.iconst 2, 1) := by decide +kernel
theorem dL_tell_17 : decode cL_tell 17 = .ok (.ireturn, 1) := by decide +kernel
theorem dL_tell_18 : decode cL_tell 18 = .ok (.iconst 0, 1) := by decide +kernel
theorem dL_tell_19 : decode cL_tell 19 = .ok (.ireturn, 1) := by decide +kernel
theorem dL_tellNode_0 : decode cL_tellNode 0 = .ok (.aload_n 3, 1) := by decide +kernel
theorem dL_tellNode_1 : decode cL_tellNode 1 = .ok (.iconst 0, 1) := by decide +kernel
theorem dL_tellNode_2 : decode cL_tellNode 2 = .ok (.aload_n 0, 1) := by decide +kernel
theorem dL_tellNode_3 : decode cL_tellNode 3 = .ok (.iload_n 1, 1) := by decide +kernel
theorem dL_tellNode_4 : decode cL_tellNode 4 = .ok (.iload_n 2, 1) := by decide +kernel
theorem dL_tellNode_5 : decode cL_tellNode 5 = .ok (.invokevirtual 106, 3) := by decide +kernel
theorem dL_tellNode_8 : decode cL_tellNode 8 = .ok (.i2l, 1) := by decide +kernel
theorem dL_tellNode_9 : decode cL_tellNode 9 = .ok (.lastore, 1) := by decide +kernel
theorem dL_tellNode_10 : decode cL_tellNode 10 = .ok (.goto 11, 3) := by decide +kernel
theorem dL_tellNode_13 : decode cL_tellNode 13 = .ok (.astore 4, 2) := by decide +kernel
theorem dL_tellNode_15 : decode cL_tellNode 15 = .ok (.iconst 1, 1) := by decide +kernel
theorem dL_tellNode_16 : decode cL_tellNode 16 = .ok (.ireturn, 1) := by decide +kernel
theorem dL_tellNode_17 : decode cL_tellNode 17 = .ok (.astore 4, 2) := by decide +kernel
theorem dL_tellNode_19 : decode cL_tellNode 19 = .ok (.iconst 2, 1) := by decide +kernel
theorem dL_tellNode_20 : decode cL_tellNode 20 = .ok (.ireturn, 1) := by decide +kernel
theorem dL_tellNode_21 : decode cL_tellNode 21 = .ok (.iconst 0, 1) := by decide +kernel
theorem dL_tellNode_22 : decode cL_tellNode 22 = .ok (.ireturn, 1) := by decide +kernel
theorem dL_tellKept_0 : decode cL_tellKept 0 = .ok (.aload_n 2, 1) := by decide +kernel
theorem dL_tellKept_1 : decode cL_tellKept 1 = .ok (.iconst 0, 1) := by decide +kernel
theorem dL_tellKept_2 : decode cL_tellKept 2 = .ok (.aload_n 0, 1) := by decide +kernel
theorem dL_tellKept_3 : decode cL_tellKept 3 = .ok (.iload_n 1, 1) := by decide +kernel
theorem dL_tellKept_4 : decode cL_tellKept 4 = .ok (.invokevirtual 109, 3) := by decide +kernel
theorem dL_tellKept_7 : decode cL_tellKept 7 = .ok (.i2l, 1) := by decide +kernel
theorem dL_tellKept_8 : decode cL_tellKept 8 = .ok (.lastore, 1) := by decide +kernel
theorem dL_tellKept_9 : decode cL_tellKept 9 = .ok (.goto 9, 3) := by decide +kernel
theorem dL_tellKept_12 : decode cL_tellKept 12 = .ok (.astore_n 3, 1) := by decide +kernel
theorem dL_tellKept_13 : decode cL_tellKept 13 = .ok (.iconst 1, 1) := by decide +kernel
theorem dL_tellKept_14 : decode cL_tellKept 14 = .ok (.ireturn, 1) := by decide +kernel
theorem dL_tellKept_15 : decode cL_tellKept 15 = .ok (.astore_n 3, 1) := by decide +kernel
theorem dL_tellKept_16 : decode cL_tellKept 16 = .ok (.iconst 2, 1) := by decide +kernel
theorem dL_tellKept_17 : decode cL_tellKept 17 = .ok (.ireturn, 1) := by decide +kernel
theorem dL_tellKept_18 : decode cL_tellKept 18 = .ok (.iconst 0, 1) := by decide +kernel
theorem dL_tellKept_19 : decode cL_tellKept 19 = .ok (.ireturn, 1) := by decide +kernel
theorem dL_tellTerm_0 : decode cL_tellTerm 0 = .ok (.aload_n 2, 1) := by decide +kernel
theorem dL_tellTerm_1 : decode cL_tellTerm 1 = .ok (.iconst 0, 1) := by decide +kernel
theorem dL_tellTerm_2 : decode cL_tellTerm 2 = .ok (.aload_n 0, 1) := by decide +kernel
theorem dL_tellTerm_3 : decode cL_tellTerm 3 = .ok (.iload_n 1, 1) := by decide +kernel
theorem dL_tellTerm_4 : decode cL_tellTerm 4 = .ok (.invokevirtual 112, 3) := by decide +kernel
theorem dL_tellTerm_7 : decode cL_tellTerm 7 = .ok (.i2l, 1) := by decide +kernel
theorem dL_tellTerm_8 : decode cL_tellTerm 8 = .ok (.lastore, 1) := by decide +kernel
theorem dL_tellTerm_9 : decode cL_tellTerm 9 = .ok (.goto 6, 3) := by decide +kernel
theorem dL_tellTerm_12 : decode cL_tellTerm 12 = .ok (.astore_n 3, 1) := by decide +kernel
theorem dL_tellTerm_13 : decode cL_tellTerm 13 = .ok (.iconst 1, 1) := by decide +kernel
theorem dL_tellTerm_14 : decode cL_tellTerm 14 = .ok (.ireturn, 1) := by decide +kernel
theorem dL_tellTerm_15 : decode cL_tellTerm 15 = .ok (.iconst 0, 1) := by decide +kernel
theorem dL_tellTerm_16 : decode cL_tellTerm 16 = .ok (.ireturn, 1) := by decide +kernel
theorem dL_character_0 : decode cL_character 0 = .ok (.aload_n 2, 1) := by decide +kernel
theorem dL_character_1 : decode cL_character 1 = .ok (.iconst 0, 1) := by decide +kernel
theorem dL_character_2 : decode cL_character 2 = .ok (.aload_n 0, 1) := by decide +kernel
theorem dL_character_3 : decode cL_character 3 = .ok (.iload_n 1, 1) := by decide +kernel
theorem dL_character_4 : decode cL_character 4 = .ok (.invokevirtual 115, 3) := by decide +kernel
theorem dL_character_7 : decode cL_character 7 = .ok (.i2l, 1) := by decide +kernel
theorem dL_character_8 : decode cL_character 8 = .ok (.lastore, 1) := by decide +kernel
theorem dL_character_9 : decode cL_character 9 = .ok (.goto 6, 3) := by decide +kernel
theorem dL_character_12 : decode cL_character 12 = .ok (.astore_n 3, 1) := by decide +kernel
theorem dL_character_13 : decode cL_character 13 = .ok (.iconst 1, 1) := by decide +kernel
theorem dL_character_14 : decode cL_character 14 = .ok (.ireturn, 1) := by decide +kernel
theorem dL_character_15 : decode cL_character 15 = .ok (.iconst 0, 1) := by decide +kernel
theorem dL_character_16 : decode cL_character 16 = .ok (.ireturn, 1) := by decide +kernel
theorem dL_account_0 : decode cL_account 0 = .ok (.aload_n 2, 1) := by decide +kernel
theorem dL_account_1 : decode cL_account 1 = .ok (.iconst 0, 1) := by decide +kernel
theorem dL_account_2 : decode cL_account 2 = .ok (.aload_n 0, 1) := by decide +kernel
theorem dL_account_3 : decode cL_account 3 = .ok (.iload_n 1, 1) := by decide +kernel
theorem dL_account_4 : decode cL_account 4 = .ok (.invokevirtual 119, 3) := by decide +kernel
theorem dL_account_7 : decode cL_account 7 = .ok (.i2l, 1) := by decide +kernel
theorem dL_account_8 : decode cL_account 8 = .ok (.lastore, 1) := by decide +kernel
theorem dL_account_9 : decode cL_account 9 = .ok (.goto 6, 3) := by decide +kernel
theorem dL_account_12 : decode cL_account 12 = .ok (.astore_n 3, 1) := by decide +kernel
theorem dL_account_13 : decode cL_account 13 = .ok (.iconst 1, 1) := by decide +kernel
theorem dL_account_14 : decode cL_account 14 = .ok (.ireturn, 1) := by decide +kernel
theorem dL_account_15 : decode cL_account 15 = .ok (.iconst 0, 1) := by decide +kernel
theorem dL_account_16 : decode cL_account 16 = .ok (.ireturn, 1) := by decide +kernel
theorem dL_meanSize_0 : decode cL_meanSize 0 = .ok (.aload_n 1, 1) := by decide +kernel
theorem dL_meanSize_1 : decode cL_meanSize 1 = .ok (.iconst 0, 1) := by decide +kernel
theorem dL_meanSize_2 : decode cL_meanSize 2 = .ok (.aload_n 0, 1) := by decide +kernel
theorem dL_meanSize_3 : decode cL_meanSize 3 = .ok (.invokevirtual 122, 3) := by decide +kernel
theorem dL_meanSize_6 : decode cL_meanSize 6 = .ok (.dastore, 1) := by decide +kernel
theorem dL_meanSize_7 : decode cL_meanSize 7 = .ok (.goto 6, 3) := by decide +kernel
theorem dL_meanSize_10 : decode cL_meanSize 10 = .ok (.astore_n 2, 1) := by decide +kernel
theorem dL_meanSize_11 : decode cL_meanSize 11 = .ok (.iconst 1, 1) := by decide +kernel
theorem dL_meanSize_12 : decode cL_meanSize 12 = .ok (.ireturn, 1) := by decide +kernel
theorem dL_meanSize_13 : decode cL_meanSize 13 = .ok (.iconst 0, 1) := by decide +kernel
theorem dL_meanSize_14 : decode cL_meanSize 14 = .ok (.ireturn, 1) := by decide +kernel
theorem dL_typedShare_0 : decode cL_typedShare 0 = .ok (.aload_n 1, 1) := by decide +kernel
theorem dL_typedShare_1 : decode cL_typedShare 1 = .ok (.iconst 0, 1) := by decide +kernel
theorem dL_typedShare_2 : decode cL_typedShare 2 = .ok (.aload_n 0, 1) := by decide +kernel
theorem dL_typedShare_3 : decode cL_typedShare 3 = .ok (.invokevirtual 128, 3) := by decide +kernel
theorem dL_typedShare_6 : decode cL_typedShare 6 = .ok (.f2d, 1) := by decide +kernel
theorem dL_typedShare_7 : decode cL_typedShare 7 = .ok (.dastore, 1) := by decide +kernel
theorem dL_typedShare_8 : decode cL_typedShare 8 = .ok (.goto 6, 3) := by decide +kernel
theorem dL_typedShare_11 : decode cL_typedShare 11 = .ok (.astore_n 2, 1) := by decide +kernel
theorem dL_typedShare_12 : decode cL_typedShare 12 = .ok (.iconst 1, 1) := by decide +kernel
theorem dL_typedShare_13 : decode cL_typedShare 13 = .ok (.ireturn, 1) := by decide +kernel
theorem dL_typedShare_14 : decode cL_typedShare 14 = .ok (.iconst 0, 1) := by decide +kernel
theorem dL_typedShare_15 : decode cL_typedShare 15 = .ok (.ireturn, 1) := by decide +kernel
theorem dL_undo_0 : decode cL_undo 0 = .ok (.aload_n 1, 1) := by decide +kernel
theorem dL_undo_1 : decode cL_undo 1 = .ok (.iconst 0, 1) := by decide +kernel
theorem dL_undo_2 : decode cL_undo 2 = .ok (.aload_n 0, 1) := by decide +kernel
theorem dL_undo_3 : decode cL_undo 3 = .ok (.invokevirtual 132, 3) := by decide +kernel
theorem dL_undo_6 : decode cL_undo 6 = .ok (.i2l, 1) := by decide +kernel
theorem dL_undo_7 : decode cL_undo 7 = .ok (.lastore, 1) := by decide +kernel
theorem dL_undo_8 : decode cL_undo 8 = .ok (.goto 6, 3) := by decide +kernel
theorem dL_undo_11 : decode cL_undo 11 = .ok (.astore_n 2, 1) := by decide +kernel
theorem dL_undo_12 : decode cL_undo 12 = .ok (.iconst 1, 1) := by decide +kernel
theorem dL_undo_13 : decode cL_undo 13 = .ok (.ireturn, 1) := by decide +kernel
theorem dL_undo_14 : decode cL_undo 14 = .ok (.iconst 0, 1) := by decide +kernel
theorem dL_undo_15 : decode cL_undo 15 = .ok (.ireturn, 1) := by decide +kernel
theorem dL_restore_0 : decode cL_restore 0 = .ok (.aload_n 1, 1) := by decide +kernel
theorem dL_restore_1 : decode cL_restore 1 = .ok (.iconst 0, 1) := by decide +kernel
theorem dL_restore_2 : decode cL_restore 2 = .ok (.aload_n 0, 1) := by decide +kernel
theorem dL_restore_3 : decode cL_restore 3 = .ok (.invokevirtual 135, 3) := by decide +kernel
theorem dL_restore_6 : decode cL_restore 6 = .ok (.i2l, 1) := by decide +kernel
theorem dL_restore_7 : decode cL_restore 7 = .ok (.lastore, 1) := by decide +kernel
theorem dL_restore_8 : decode cL_restore 8 = .ok (.goto 6, 3) := by decide +kernel
theorem dL_restore_11 : decode cL_restore 11 = .ok (.astore_n 2, 1) := by decide +kernel
theorem dL_restore_12 : decode cL_restore 12 = .ok (.iconst 1, 1) := by decide +kernel
theorem dL_restore_13 : decode cL_restore 13 = .ok (.ireturn, 1) := by decide +kernel
theorem dL_restore_14 : decode cL_restore 14 = .ok (.iconst 0, 1) := by decide +kernel
theorem dL_restore_15 : decode cL_restore 15 = .ok (.ireturn, 1) := by decide +kernel
