theorem dX11_typeAgain_14 : decode cX11_typeAgain 14 = .ok (.iconst 0, 1) := by decide +kernel
theorem dX11_typeAgain_15 : decode cX11_typeAgain 15 = .ok (.iconst 4, 1) := by decide +kernel
theorem dX11_typeAgain_16 : decode cX11_typeAgain 16 = .ok (.invokestatic 164, 3) := by decide +kernel
theorem dX11_typeAgain_19 : decode cX11_typeAgain 19 = .ok (.ifCond .ne 7, 3) := by decide +kernel
theorem dX11_typeAgain_22 : decode cX11_typeAgain 22 = .ok (.iconst 2, 1) := by decide +kernel
theorem dX11_typeAgain_23 : decode cX11_typeAgain 23 = .ok (.goto 26, 3) := by decide +kernel
theorem dX11_typeAgain_26 : decode cX11_typeAgain 26 = .ok (.aload_n 0, 1) := by decide +kernel
theorem dX11_typeAgain_27 : decode cX11_typeAgain 27 = .ok (.iload_n 1, 1) := by decide +kernel
theorem dX11_typeAgain_28 : decode cX11_typeAgain 28 = .ok (.invokevirtual 367, 3) := by decide +kernel
theorem dX11_typeAgain_31 : decode cX11_typeAgain 31 = .ok (.ifCond .eq 17, 3) := by decide +kernel
theorem dX11_typeAgain_34 : decode cX11_typeAgain 34 = .ok (.aload_n 0, 1) := by decide +kernel
theorem dX11_typeAgain_35 : decode cX11_typeAgain 35 = .ok (.invokevirtual 391, 3) := by decide +kernel
theorem dX11_typeAgain_38 : decode cX11_typeAgain 38 = .ok (.sipush 300, 3) := by decide +kernel
theorem dX11_typeAgain_41 : decode cX11_typeAgain 41 = .ok (.if_icmp .gt 7, 3) := by decide +kernel
theorem dX11_typeAgain_44 : decode cX11_typeAgain 44 = .ok (.iconst 0, 1) := by decide +kernel
theorem dX11_typeAgain_45 : decode cX11_typeAgain 45 = .ok (.goto 4, 3) := by decide +kernel
theorem dX11_typeAgain_48 : decode cX11_typeAgain 48 = .ok (.iconst 3, 1) := by decide +kernel
theorem dX11_typeAgain_49 : decode cX11_typeAgain 49 = .ok (.putfield 161, 3) := by decide +kernel
theorem dX11_typeAgain_52 : decode cX11_typeAgain 52 = .ok (.aload_n 0, 1) := by decide +kernel
theorem dX11_typeAgain_53 : decode cX11_typeAgain 53 = .ok (.getfield 161, 3) := by decide +kernel
theorem dX11_typeAgain_56 : decode cX11_typeAgain 56 = .ok (.ifCond .ne 17, 3) := by decide +kernel
theorem dX11_typeAgain_59 : decode cX11_typeAgain 59 = .ok (.aload_n 0, 1) := by decide +kernel
theorem dX11_typeAgain_60 : decode cX11_typeAgain 60 = .ok (.aload_n 0, 1) := by decide +kernel
theorem dX11_typeAgain_61 : decode cX11_typeAgain 61 = .ok (.getfield 137, 3) := by decide +kernel
theorem dX11_typeAgain_64 : decode cX11_typeAgain 64 = .ok (.iconst 0, 1) := by decide +kernel
theorem dX11_typeAgain_65 : decode cX11_typeAgain 65 = .ok (.iaload, 1) := by decide +kernel
theorem dX11_typeAgain_66 : decode cX11_typeAgain 66 = .ok (.iload_n 2, 1) := by decide +kernel
theorem dX11_typeAgain_67 : decode cX11_typeAgain 67 = .ok (.invokevirtual 388, 3) := by decide +kernel
theorem dX11_typeAgain_70 : decode cX11_typeAgain 70 = .ok (.goto 4, 3) := by decide +kernel
theorem dX11_typeAgain_73 : decode cX11_typeAgain 73 = .ok (.iconst 0, 1) := by decide +kernel
theorem dX11_typeAgain_74 : decode cX11_typeAgain 74 = .ok (.ireturn, 1) := by decide +kernel
theorem dX11_nodeType_0 : decode cX11_nodeType 0 = .ok (.aload_n 0, 1) := by decide +kernel
theorem dX11_nodeType_1 : decode cX11_nodeType 1 = .ok (.aload_n 0, 1) := by decide +kernel
theorem dX11_nodeType_2 : decode cX11_nodeType 2 = .ok (.iload_n 1, 1) := by decide +kernel
theorem dX11_nodeType_3 : decode cX11_nodeType 3 = .ok (.iload_n 2, 1) := by decide +kernel
theorem dX11_nodeType_4 : decode cX11_nodeType 4 = .ok (.invokevirtual 379, 3) := by decide +kernel
theorem dX11_nodeType_7 : decode cX11_nodeType 7 = .ok (.ifCond .ne 7, 3) := by decide +kernel
theorem dX11_nodeType_10 : decode cX11_nodeType 10 = .ok (.iconst 1, 1) := by decide +kernel
theorem dX11_nodeType_11 : decode cX11_nodeType 11 = .ok (.goto 29, 3) := by decide +kernel
theorem dX11_nodeType_14 : decode cX11_nodeType 14 = .ok (.iload_n 3, 1) := by decide +kernel
theorem dX11_nodeType_15 : decode cX11_nodeType 15 = .ok (.iconst 0, 1) := by decide +kernel
theorem dX11_nodeType_16 : decode cX11_nodeType 16 = .ok (.iconst 4, 1) := by decide +kernel
theorem dX11_nodeType_17 : decode cX11_nodeType 17 = .ok (.invokestatic 164, 3) := by decide +kernel
theorem dX11_nodeType_20 : decode cX11_nodeType 20 = .ok (.ifCond .ne 7, 3) := by decide +kernel
theorem dX11_nodeType_23 : decode cX11_nodeType 23 = .ok (.iconst 2, 1) := by decide +kernel
theorem dX11_nodeType_24 : decode cX11_nodeType 24 = .ok (.goto 16, 3) := by decide +kernel
theorem dX11_nodeType_27 : decode cX11_nodeType 27 = .ok (.aload_n 0, 1) := by decide +kernel
theorem dX11_nodeType_28 : decode cX11_nodeType 28 = .ok (.iload_n 1, 1) := by decide +kernel
theorem dX11_nodeType_29 : decode cX11_nodeType 29 = .ok (.invokevirtual 367, 3) := by decide +kernel
theorem dX11_nodeType_32 : decode cX11_nodeType 32 = .ok (.ifCond .eq 7, 3) := by decide +kernel
theorem dX11_nodeType_35 : decode cX11_nodeType 35 = .ok (.iconst 0, 1) := by decide +kernel
theorem dX11_nodeType_36 : decode cX11_nodeType 36 = .ok (.goto 4, 3) := by decide +kernel
theorem dX11_nodeType_39 : decode cX11_nodeType 39 = .ok (.iconst 3, 1) := by decide +kernel
theorem dX11_nodeType_40 : decode cX11_nodeType 40 = .ok (.putfield 161, 3) := by decide +kernel
theorem dX11_nodeType_43 : decode cX11_nodeType 43 = .ok (.aload_n 0, 1) := by decide +kernel
theorem dX11_nodeType_44 : decode cX11_nodeType 44 = .ok (.getfield 161, 3) := by decide +kernel
theorem dX11_nodeType_47 : decode cX11_nodeType 47 = .ok (.ifCond .ne 17, 3) := by decide +kernel
theorem dX11_nodeType_50 : decode cX11_nodeType 50 = .ok (.aload_n 0, 1) := by decide +kernel
theorem dX11_nodeType_51 : decode cX11_nodeType 51 = .ok (.aload_n 0, 1) := by decide +kernel
theorem dX11_nodeType_52 : decode cX11_nodeType 52 = .ok (.getfield 137, 3) := by decide +kernel
theorem dX11_nodeType_55 : decode cX11_nodeType 55 = .ok (.iload_n 2, 1) := by decide +kernel
theorem dX11_nodeType_56 : decode cX11_nodeType 56 = .ok (.iaload, 1) := by decide +kernel
theorem dX11_nodeType_57 : decode cX11_nodeType 57 = .ok (.iload_n 3, 1) := by decide +kernel
theorem dX11_nodeType_58 : decode cX11_nodeType 58 = .ok (.invokevirtual 388, 3) := by decide +kernel
theorem dX11_nodeType_61 : decode cX11_nodeType 61 = .ok (.goto 4, 3) := by decide +kernel
theorem dX11_nodeType_64 : decode cX11_nodeType 64 = .ok (.iconst 0, 1) := by decide +kernel
theorem dX11_nodeType_65 : decode cX11_nodeType 65 = .ok (.ireturn, 1) := by decide +kernel
theorem dX11_both_0 : decode cX11_both 0 = .ok (.aload_n 0, 1) := by decide +kernel
theorem dX11_both_1 : decode cX11_both 1 = .ok (.iload_n 1, 1) := by decide +kernel
theorem dX11_both_2 : decode cX11_both 2 = .ok (.invokevirtual 367, 3) := by decide +kernel
theorem dX11_both_5 : decode cX11_both 5 = .ok (.ifCond .ne 5, 3) := by decide +kernel
theorem dX11_both_8 : decode cX11_both 8 = .ok (.iconst 0, 1) := by decide +kernel
theorem dX11_both_9 : decode cX11_both 9 = .ok (.ireturn, 1) := by decide +kernel
theorem dX11_both_10 : decode cX11_both 10 = .ok (.aload_n 0, 1) := by decide +kernel
theorem dX11_both_11 : decode cX11_both 11 = .ok (.aload_n 0, 1) := by decide +kernel
theorem dX11_both_12 : decode cX11_both 12 = .ok (.getfield 137, 3) := by decide +kernel
theorem dX11_both_15 : decode cX11_both 15 = .ok (.iconst 0, 1) := by decide +kernel
theorem dX11_both_16 : decode cX11_both 16 = .ok (.iaload, 1) := by decide +kernel
theorem dX11_both_17 : decode cX11_both 17 = .ok (.invokevirtual 370, 3) := by decide +kernel
theorem dX11_both_20 : decode cX11_both 20 = .ok (.aload_n 0, 1) := by decide +kernel
theorem dX11_both_21 : decode cX11_both 21 = .ok (.aload_n 0, 1) := by decide +kernel
theorem dX11_both_22 : decode cX11_both 22 = .ok (.getfield 262, 3) := by decide +kernel
theorem dX11_both_25 : decode cX11_both 25 = .ok (.putfield 394, 3) := by decide +kernel
theorem dX11_both_28 : decode cX11_both 28 = .ok (.iconst 0, 1) := by decide +kernel
theorem dX11_both_29 : decode cX11_both 29 = .ok (.istore_n 3, 1) := by decide +kernel
theorem dX11_both_30 : decode cX11_both 30 = .ok (.iload_n 3, 1) := by decide +kernel
theorem dX11_both_31 : decode cX11_both 31 = .ok (.aload_n 0, 1) := by decide +kernel
theorem dX11_both_32 : decode cX11_both 32 = .ok (.getfield 262, 3) := by decide +kernel
theorem dX11_both_35 : decode cX11_both 35 = .ok (.if_icmp .ge 21, 3) := by decide +kernel
theorem dX11_both_38 : decode cX11_both 38 = .ok (.aload_n 0, 1) := by decide +kernel
theorem dX11_both_39 : decode cX11_both 39 = .ok (.getfield 122, 3) := by decide +kernel
theorem dX11_both_42 : decode cX11_both 42 = .ok (.iload_n 3, 1) := by decide +kernel
theorem dX11_both_43 : decode cX11_both 43 = .ok (.aload_n 0, 1) := by decide +kernel
theorem dX11_both_44 : decode cX11_both 44 = .ok (.getfield 119, 3) := by decide +kernel
theorem dX11_both_47 : decode cX11_both 47 = .ok (.iload_n 3, 1) := by decide +kernel
theorem dX11_both_48 : decode cX11_both 48 = .ok (.iaload, 1) := by decide +kernel
theorem dX11_both_49 : decode cX11_both 49 = .ok (.iastore, 1) := by decide +kernel
theorem dX11_both_50 : decode cX11_both 50 = .ok (.iinc 3 1, 3) := by decide +kernel
theorem dX11_both_53 : decode cX11_both 53 = .ok (.goto (-23), 3) := by decide +kernel
theorem dX11_both_56 : decode cX11_both 56 = .ok (.aload_n 0, 1) := by decide +kernel
theorem dX11_both_57 : decode cX11_both 57 = .ok (.iload_n 2, 1) := by decide +kernel
theorem dX11_both_58 : decode cX11_both 58 = .ok (.invokevirtual 367, 3) := by decide +kernel
theorem dX11_both_61 : decode cX11_both 61 = .ok (.ifCond .ne 5, 3) := by decide +kernel
theorem dX11_both_64 : decode cX11_both 64 = .ok (.iconst 0, 1) := by decide +kernel
theorem dX11_both_65 : decode cX11_both 65 = .ok (.ireturn, 1) := by decide +kernel
theorem dX11_both_66 : decode cX11_both 66 = .ok (.aload_n 0, 1) := by decide +kernel
theorem dX11_both_67 : decode cX11_both 67 = .ok (.aload_n 0, 1) := by decide +kernel
theorem dX11_both_68 : decode cX11_both 68 = .ok (.getfield 137, 3) := by decide +kernel
theorem dX11_both_71 : decode cX11_both 71 = .ok (.iconst 0, 1) := by decide +kernel
theorem dX11_both_72 : decode cX11_both 72 = .ok (.iaload, 1) := by decide +kernel
theorem dX11_both_73 : decode cX11_both 73 = .ok (.invokevirtual 370, 3) := by decide +kernel
theorem dX11_both_76 : decode cX11_both 76 = .ok (.aload_n 0, 1) := by decide +kernel
theorem dX11_both_77 : decode cX11_both 77 = .ok (.aload_n 0, 1) := by decide +kernel
theorem dX11_both_78 : decode cX11_both 78 = .ok (.getfield 262, 3) := by decide +kernel
theorem dX11_both_81 : decode cX11_both 81 = .ok (.putfield 397, 3) := by decide +kernel
theorem dX11_both_84 : decode cX11_both 84 = .ok (.iconst 0, 1) := by decide +kernel
theorem dX11_both_85 : decode cX11_both 85 = .ok (.istore_n 3, 1) := by decide +kernel
theorem dX11_both_86 : decode cX11_both 86 = .ok (.iload_n 3, 1) := by decide +kernel
theorem dX11_both_87 : decode cX11_both 87 = .ok (.aload_n 0, 1) := by decide +kernel
theorem dX11_both_88 : decode cX11_both 88 = .ok (.getfield 262, 3) := by decide +kernel
theorem dX11_both_91 : decode cX11_both 91 = .ok (.if_icmp .ge 21, 3) := by decide +kernel
theorem dX11_both_94 : decode cX11_both 94 = .ok (.aload_n 0, 1) := by decide +kernel
theorem dX11_both_95 : decode cX11_both 95 = .ok (.getfield 125, 3) := by decide +kernel
theorem dX11_both_98 : decode cX11_both 98 = .ok (.iload_n 3, 1) := by decide +kernel
theorem dX11_both_99 : decode cX11_both 99 = .ok (.aload_n 0, 1) := by decide +kernel
theorem dX11_both_100 : decode cX11_both 100 = .ok (.getfield 119, 3) := by decide +kernel
theorem dX11_both_103 : decode cX11_both 103 = .ok (.iload_n 3, 1) := by decide +kernel
theorem dX11_both_104 : decode cX11_both 104 = .ok (.iaload, 1) := by decide +kernel
theorem dX11_both_105 : decode cX11_both 105 = .ok (.iastore, 1) := by decide +kernel
theorem dX11_both_106 : decode cX11_both 106 = .ok (.iinc 3 1, 3) := by decide +kernel
theorem dX11_both_109 : decode cX11_both 109 = .ok (.goto (-23), 3) := by decide +kernel
theorem dX11_both_112 : decode cX11_both 112 = .ok (.iconst 1, 1) := by decide +kernel
theorem dX11_both_113 : decode cX11_both 113 = .ok (.ireturn, 1) := by decide +kernel
theorem dX11_twoLessons_0 : decode cX11_twoLessons 0 = .ok (.aload_n 0, 1) := by decide +kernel
theorem dX11_twoLessons_1 : decode cX11_twoLessons 1 = .ok (.iload_n 1, 1) := by decide +kernel
theorem dX11_twoLessons_2 : decode cX11_twoLessons 2 = .ok (.invokevirtual 361, 3) := by decide +kernel
theorem dX11_twoLessons_5 : decode cX11_twoLessons 5 = .ok (.ifCond .eq 11, 3) := by decide +kernel
theorem dX11_twoLessons_8 : decode cX11_twoLessons 8 = .ok (.aload_n 0, 1) := by decide +kernel
theorem dX11_twoLessons_9 : decode cX11_twoLessons 9 = .ok (.iload_n 2, 1) := by decide +kernel
theorem dX11_twoLessons_10 : decode cX11_twoLessons 10 = .ok (.invokevirtual 361, 3) := by decide +kernel
theorem dX11_twoLessons_13 : decode cX11_twoLessons 13 = .ok (.ifCond .ne 7, 3) := by decide +kernel
theorem dX11_twoLessons_16 : decode cX11_twoLessons 16 = .ok (.iconst 1, 1) := by decide +kernel
theorem dX11_twoLessons_17 : decode cX11_twoLessons 17 = .ok (.goto 17, 3) := by decide +kernel
theorem dX11_twoLessons_20 : decode cX11_twoLessons 20 = .ok (.aload_n 0, 1) := by decide +kernel
theorem dX11_twoLessons_21 : decode cX11_twoLessons 21 = .ok (.iload_n 1, 1) := by decide +kernel
theorem dX11_twoLessons_22 : decode cX11_twoLessons 22 = .ok (.iload_n 2, 1) := by decide +kernel
theorem dX11_twoLessons_23 : decode cX11_twoLessons 23 = .ok (.invokevirtual 400, 3) := by decide +kernel
theorem dX11_twoLessons_26 : decode cX11_twoLessons 26 = .ok (.ifCond .eq 7, 3) := by decide +kernel
theorem dX11_twoLessons_29 : decode cX11_twoLessons 29 = .ok (.iconst 0, 1) := by decide +kernel
theorem dX11_twoLessons_30 : decode cX11_twoLessons 30 = .ok (.goto 4, 3) := by decide +kernel
theorem dX11_twoLessons_33 : decode cX11_twoLessons 33 = .ok (.iconst 2, 1) := by decide +kernel
theorem dX11_twoLessons_34 : decode cX11_twoLessons 34 = .ok (.ireturn, 1) := by decide +kernel
theorem dX11_isAlike_0 : decode cX11_isAlike 0 = .ok (.aload_n 0, 1) := by decide +kernel
theorem dX11_isAlike_1 : decode cX11_isAlike 1 = .ok (.aload_n 0, 1) := by decide +kernel
theorem dX11_isAlike_2 : decode cX11_isAlike 2 = .ok (.iload_n 1, 1) := by decide +kernel
theorem dX11_isAlike_3 : decode cX11_isAlike 3 = .ok (.iload_n 2, 1) := by decide +kernel
theorem dX11_isAlike_4 : decode cX11_isAlike 4 = .ok (.invokevirtual 403, 3) := by decide +kernel
theorem dX11_isAlike_7 : decode cX11_isAlike 7 = .ok (.putfield 161, 3) := by decide +kernel
theorem dX11_isAlike_10 : decode cX11_isAlike 10 = .ok (.aload_n 0, 1) := by decide +kernel
theorem dX11_isAlike_11 : decode cX11_isAlike 11 = .ok (.getfield 161, 3) := by decide +kernel
theorem dX11_isAlike_14 : decode cX11_isAlike 14 = .ok (.ifCond .ne 14, 3) := by decide +kernel
theorem dX11_isAlike_17 : decode cX11_isAlike 17 = .ok (.aload_n 0, 1) := by decide +kernel
theorem dX11_isAlike_18 : decode cX11_isAlike 18 = .ok (.getfield 394, 3) := by decide +kernel
theorem dX11_isAlike_21 : decode cX11_isAlike 21 = .ok (.aload_n 0, 1) := by decide +kernel
theorem dX11_isAlike_22 : decode cX11_isAlike 22 = .ok (.getfield 397, 3) := by decide +kernel
theorem dX11_isAlike_25 : decode cX11_isAlike 25 = .ok (.if_icmp .eq 5, 3) := by decide +kernel
theorem dX11_isAlike_28 : decode cX11_isAlike 28 = .ok (.iconst 0, 1) := by decide +kernel
theorem dX11_isAlike_29 : decode cX11_isAlike 29 = .ok (.ireturn, 1) := by decide +kernel
theorem dX11_isAlike_30 : decode cX11_isAlike 30 = .ok (.iconst 1, 1) := by decide +kernel
theorem dX11_isAlike_31 : decode cX11_isAlike 31 = .ok (.istore_n 3, 1) := by decide +kernel
theorem dX11_isAlike_32 : decode cX11_isAlike 32 = .ok (.iconst 0, 1) := by decide +kernel
theorem dX11_isAlike_33 : decode cX11_isAlike 33 = .ok (.istore 4, 2) := by decide +kernel
theorem dX11_isAlike_35 : decode cX11_isAlike 35 = .ok (.iload 4, 2) := by decide +kernel
theorem dX11_isAlike_37 : decode cX11_isAlike 37 = .ok (.aload_n 0, 1) := by decide +kernel
theorem dX11_isAlike_38 : decode cX11_isAlike 38 = .ok (.getfield 394, 3) := by decide +kernel
theorem dX11_isAlike_41 : decode cX11_isAlike 41 = .ok (.if_icmp .ge 34, 3) := by decide +kernel
theorem dX11_isAlike_44 : decode cX11_isAlike 44 = .ok (.iload_n 3, 1) := by decide +kernel
theorem dX11_isAlike_45 : decode cX11_isAlike 45 = .ok (.aload_n 0, 1) := by decide +kernel
theorem dX11_isAlike_46 : decode cX11_isAlike 46 = .ok (.getfield 122, 3) := by decide +kernel
theorem dX11_isAlike_49 : decode cX11_isAlike 49 = .ok (.iload 4, 2) := by decide +kernel
theorem dX11_isAlike_51 : decode cX11_isAlike 51 = .ok (.iaload, 1) := by decide +kernel
theorem dX11_isAlike_52 : decode cX11_isAlike 52 = .ok (.aload_n 0, 1) := by decide +kernel
theorem dX11_isAlike_53 : decode cX11_isAlike 53 = .ok (.getfield 125, 3) := by decide +kernel
theorem dX11_isAlike_56 : decode cX11_isAlike 56 = .ok (.iload 4, 2) := by decide +kernel
theorem dX11_isAlike_58 : decode cX11_isAlike 58 = .ok (.iaload, 1) := by decide +kernel
theorem dX11_isAlike_59 : decode cX11_isAlike 59 = .ok (.if_icmp .ne 7, 3) := by decide +kernel
theorem dX11_isAlike_62 : decode cX11_isAlike 62 = .ok (.iconst 1, 1) := by decide +kernel
theorem dX11_isAlike_63 : decode cX11_isAlike 63 = .ok (.goto 4, 3) := by decide +kernel
theorem dX11_isAlike_66 : decode cX11_isAlike 66 = .ok (.iconst 0, 1) := by decide +kernel
theorem dX11_isAlike_67 : decode cX11_isAlike 67 = .ok (.iand, 1) := by decide +kernel
theorem dX11_isAlike_68 : decode cX11_isAlike 68 = .ok (.istore_n 3, 1) := by decide +kernel
theorem dX11_isAlike_69 : decode cX11_isAlike 69 = .ok (.iinc 4 1, 3) := by decide +kernel
theorem dX11_isAlike_72 : decode cX11_isAlike 72 = .ok (.goto (-37), 3) := by decide +kernel
theorem dX11_isAlike_75 : decode cX11_isAlike 75 = .ok (.iload_n 3, 1) := by decide +kernel
theorem dX11_isAlike_76 : decode cX11_isAlike 76 = .ok (.ireturn, 1) := by decide +kernel
theorem dX11_endOf_0 : decode cX11_endOf 0 = .ok (.iload_n 1, 1) := by decide +kernel
theorem dX11_endOf_1 : decode cX11_endOf 1 = .ok (.istore_n 2, 1) := by decide +kernel
theorem dX11_endOf_2 : decode cX11_endOf 2 = .ok (.iconst 1, 1) := by decide +kernel
theorem dX11_endOf_3 : decode cX11_endOf 3 = .ok (.istore_n 3, 1) := by decide +kernel
theorem dX11_endOf_4 : decode cX11_endOf 4 = .ok (.iload_n 3, 1) := by decide +kernel
theorem dX11_endOf_5 : decode cX11_endOf 5 = .ok (.ifCond .le 27, 3) := by decide +kernel
theorem dX11_endOf_8 : decode cX11_endOf 8 = .ok (.iload_n 3, 1) := by decide +kernel
theorem dX11_endOf_9 : decode cX11_endOf 9 = .ok (.aload_n 0, 1) := by decide +kernel
theorem dX11_endOf_10 : decode cX11_endOf 10 = .ok (.getfield 125, 3) := by decide +kernel
theorem dX11_endOf_13 : decode cX11_endOf 13 = .ok (.iload_n 2, 1) := by decide +kernel
theorem dX11_endOf_14 : decode cX11_endOf 14 = .ok (.iaload, 1) := by decide +kernel
theorem dX11_endOf_15 : decode cX11_endOf 15 = .ok (.iconst 2, 1) := by decide +kernel
theorem dX11_endOf_16 : decode cX11_endOf 16 = .ok (.if_icmp .ne 7, 3) := by decide +kernel
theorem dX11_endOf_19 : decode cX11_endOf 19 = .ok (.iconst 1, 1) := by decide +kernel
theorem dX11_endOf_20 : decode cX11_endOf 20 = .ok (.goto 4, 3) := by decide +kernel
theorem dX11_endOf_23 : decode cX11_endOf 23 = .ok (.iconst (-1), 1) := by decide +kernel
theorem dX11_endOf_24 : decode cX11_endOf 24 = .ok (.iadd, 1) := by decide +kernel
theorem dX11_endOf_25 : decode cX11_endOf 25 = .ok (.istore_n 3, 1) := by decide +kernel
theorem dX11_endOf_26 : decode cX11_endOf 26 = .ok (.iinc 2 1, 3) := by decide +kernel
theorem dX11_endOf_29 : decode cX11_endOf 29 = .ok (.goto (-25), 3) := by decide +kernel
theorem dX11_endOf_32 : decode cX11_endOf 32 = .ok (.iload_n 2, 1) := by decide +kernel
theorem dX11_endOf_33 : decode cX11_endOf 33 = .ok (.ireturn, 1) := by decide +kernel
theorem dX11_isSame_0 : decode cX11_isSame 0 = .ok (.aload_n 0, 1) := by decide +kernel
theorem dX11_isSame_1 : decode cX11_isSame 1 = .ok (.iload_n 1, 1) := by decide +kernel
theorem dX11_isSame_2 : decode cX11_isSame 2 = .ok (.invokevirtual 406, 3) := by decide +kernel
theorem dX11_isSame_5 : decode cX11_isSame 5 = .ok (.iload_n 1, 1) := by decide +kernel
theorem dX11_isSame_6 : decode cX11_isSame 6 = .ok (.isub, 1) := by decide +kernel
theorem dX11_isSame_7 : decode cX11_isSame 7 = .ok (.istore_n 3, 1) := by decide +kernel
theorem dX11_isSame_8 : decode cX11_isSame 8 = .ok (.aload_n 0, 1) := by decide +kernel
theorem dX11_isSame_9 : decode cX11_isSame 9 = .ok (.iload_n 2, 1) := by decide +kernel
theorem dX11_isSame_10 : decode cX11_isSame 10 = .ok (.invokevirtual 406, 3) := by decide +kernel
theorem dX11_isSame_13 : decode cX11_isSame 13 = .ok (.iload_n 2, 1) := by decide +kernel
theorem dX11_isSame_14 : decode cX11_isSame 14 = .ok (.isub, 1) := by decide +kernel
theorem dX11_isSame_15 : decode cX11_isSame 15 = .ok (.iload_n 3, 1) := by decide +kernel
theorem dX11_isSame_16 : decode cX11_isSame 16 = .ok (.if_icmp .eq 5, 3) := by decide +kernel
theorem dX11_isSame_19 : decode cX11_isSame 19 = .ok (.iconst 0, 1) := by decide +kernel
theorem dX11_isSame_20 : decode cX11_isSame 20 = .ok (.ireturn, 1) := by decide +kernel
theorem dX11_isSame_21 : decode cX11_isSame 21 = .ok (.iconst 1, 1) := by decide +kernel
theorem dX11_isSame_22 : decode cX11_isSame 22 = .ok (.istore 4, 2) := by decide +kernel
theorem dX11_isSame_24 : decode cX11_isSame 24 = .ok (.iconst 0, 1) := by decide +kernel
theorem dX11_isSame_25 : decode cX11_isSame 25 = .ok (.istore 5, 2) := by decide +kernel
theorem dX11_isSame_27 : decode cX11_isSame 27 = .ok (.iload 5, 2) := by decide +kernel
theorem dX11_isSame_29 : decode cX11_isSame 29 = .ok (.iload_n 3, 1) := by decide +kernel
theorem dX11_isSame_30 : decode cX11_isSame 30 = .ok (.if_icmp .ge 40, 3) := by decide +kernel
theorem dX11_isSame_33 : decode cX11_isSame 33 = .ok (.iload 4, 2) := by decide +kernel
theorem dX11_isSame_35 : decode cX11_isSame 35 = .ok (.aload_n 0, 1) := by decide +kernel
theorem dX11_isSame_36 : decode cX11_isSame 36 = .ok (.getfield 125, 3) := by decide +kernel
theorem dX11_isSame_39 : decode cX11_isSame 39 = .ok (.iload_n 1, 1) := by decide +kernel
theorem dX11_isSame_40 : decode cX11_isSame 40 = .ok (.iload 5, 2) := by decide +kernel
theorem dX11_isSame_42 : decode cX11_isSame 42 = .ok (.iadd, 1) := by decide +kernel
theorem dX11_isSame_43 : decode cX11_isSame 43 = .ok (.iaload, 1) := by decide +kernel
theorem dX11_isSame_44 : decode cX11_isSame 44 = .ok (.aload_n 0, 1) := by decide +kernel
theorem dX11_isSame_45 : decode cX11_isSame 45 = .ok (.getfield 125, 3) := by decide +kernel
theorem dX11_isSame_48 : decode cX11_isSame 48 = .ok (.iload_n 2, 1) := by decide +kernel
theorem dX11_isSame_49 : decode cX11_isSame 49 = .ok (.iload 5, 2) := by decide +kernel
theorem dX11_isSame_51 : decode cX11_isSame 51 = .ok (.iadd, 1) := by decide +kernel
theorem dX11_isSame_52 : decode cX11_isSame 52 = .ok (.iaload, 1) := by decide +kernel
theorem dX11_isSame_53 : decode cX11_isSame 53 = .ok (.if_icmp .ne 7, 3) := by decide +kernel
theorem dX11_isSame_56 : decode cX11_isSame 56 = .ok (.iconst 1, 1) := by decide +kernel
theorem dX11_isSame_57 : decode cX11_isSame 57 = .ok (.goto 4, 3) := by decide +kernel
theorem dX11_isSame_60 : decode cX11_isSame 60 = .ok (.iconst 0, 1) := by decide +kernel
theorem dX11_isSame_61 : decode cX11_isSame 61 = .ok (.iand, 1) := by decide +kernel
theorem dX11_isSame_62 : decode cX11_isSame 62 = .ok (.istore 4, 2) := by decide +kernel
theorem dX11_isSame_64 : decode cX11_isSame 64 = .ok (.iinc 5 1, 3) := by decide +kernel
theorem dX11_isSame_67 : decode cX11_isSame 67 = .ok (.goto (-40), 3) := by decide +kernel
theorem dX11_isSame_70 : decode cX11_isSame 70 = .ok (.iload 4, 2) := by decide +kernel
theorem dX11_isSame_72 : decode cX11_isSame 72 = .ok (.ireturn, 1) := by decide +kernel
theorem dX11_isAsGeneral_0 : decode cX11_isAsGeneral 0 = .ok (.aload_n 0, 1) := by decide +kernel
theorem dX11_isAsGeneral_1 : decode cX11_isAsGeneral 1 = .ok (.aload_n 0, 1) := by decide +kernel
theorem dX11_isAsGeneral_2 : decode cX11_isAsGeneral 2 = .ok (.iload_n 1, 1) := by decide +kernel
theorem dX11_isAsGeneral_3 : decode cX11_isAsGeneral 3 = .ok (.iload_n 2, 1) := by decide +kernel
theorem dX11_isAsGeneral_4 : decode cX11_isAsGeneral 4 = .ok (.invokevirtual 403, 3) := by decide +kernel
theorem dX11_isAsGeneral_7 : decode cX11_isAsGeneral 7 = .ok (.putfield 161, 3) := by decide +kernel
theorem dX11_isAsGeneral_10 : decode cX11_isAsGeneral 10 = .ok (.aload_n 0, 1) := by decide +kernel
theorem dX11_isAsGeneral_11 : decode cX11_isAsGeneral 11 = .ok (.getfield 161, 3) := by decide +kernel
theorem dX11_isAsGeneral_14 : decode cX11_isAsGeneral 14 = .ok (.ifCond .eq 5, 3) := by decide +kernel
theorem dX11_isAsGeneral_17 : decode cX11_isAsGeneral 17 = .ok (.iconst 0, 1) := by decide +kernel
theorem dX11_isAsGeneral_18 : decode cX11_isAsGeneral 18 = .ok (.ireturn, 1) := by decide +kernel
theorem dX11_isAsGeneral_19 : decode cX11_isAsGeneral 19 = .ok (.iconst 0, 1) := by decide +kernel
theorem dX11_isAsGeneral_20 : decode cX11_isAsGeneral 20 = .ok (.istore_n 3, 1) := by decide +kernel
theorem dX11_isAsGeneral_21 : decode cX11_isAsGeneral 21 = .ok (.iload_n 3, 1) := by decide +kernel
theorem dX11_isAsGeneral_22 : decode cX11_isAsGeneral 22 = .ok (.sipush 210, 3) := by decide +kernel
theorem dX11_isAsGeneral_25 : decode cX11_isAsGeneral 25 = .ok (.if_icmp .ge 16, 3) := by decide +kernel
theorem dX11_isAsGeneral_28 : decode cX11_isAsGeneral 28 = .ok (.aload_n 0, 1) := by decide +kernel
theorem dX11_isAsGeneral_29 : decode cX11_isAsGeneral 29 = .ok (.getfield 128, 3) := by decide +kernel
theorem dX11_isAsGeneral_32 : decode cX11_isAsGeneral 32 = .ok (.iload_n 3, 1) := by decide +kernel
theorem dX11_isAsGeneral_33 : decode cX11_isAsGeneral 33 = .ok (.iconst (-1), 1) := by decide +kernel
theorem dX11_isAsGeneral_34 : decode cX11_isAsGeneral 34 = .ok (.iastore, 1) := by decide +kernel
theorem dX11_isAsGeneral_35 : decode cX11_isAsGeneral 35 = .ok (.iinc 3 1, 3) := by decide +kernel
theorem dX11_isAsGeneral_38 : decode cX11_isAsGeneral 38 = .ok (.goto (-17), 3) := by decide +kernel
theorem dX11_isAsGeneral_41 : decode cX11_isAsGeneral 41 = .ok (.iconst 0, 1) := by decide +kernel
theorem dX11_isAsGeneral_42 : decode cX11_isAsGeneral 42 = .ok (.istore_n 3, 1) := by decide +kernel
theorem dX11_isAsGeneral_43 : decode cX11_isAsGeneral 43 = .ok (.iconst 0, 1) := by decide +kernel
theorem dX11_isAsGeneral_44 : decode cX11_isAsGeneral 44 = .ok (.istore 4, 2) := by decide +kernel
theorem dX11_isAsGeneral_46 : decode cX11_isAsGeneral 46 = .ok (.iload 4, 2) := by decide +kernel
theorem dX11_isAsGeneral_48 : decode cX11_isAsGeneral 48 = .ok (.aload_n 0, 1) := by decide +kernel
theorem dX11_isAsGeneral_49 : decode cX11_isAsGeneral 49 = .ok (.getfield 394, 3) := by decide +kernel
theorem dX11_isAsGeneral_52 : decode cX11_isAsGeneral 52 = .ok (.if_icmp .ge 93, 3) := by decide +kernel
theorem dX11_isAsGeneral_55 : decode cX11_isAsGeneral 55 = .ok (.aload_n 0, 1) := by decide +kernel
theorem dX11_isAsGeneral_56 : decode cX11_isAsGeneral 56 = .ok (.getfield 122, 3) := by decide +kernel
theorem dX11_isAsGeneral_59 : decode cX11_isAsGeneral 59 = .ok (.iload 4, 2) := by decide +kernel
theorem dX11_isAsGeneral_61 : decode cX11_isAsGeneral 61 = .ok (.iaload, 1) := by decide +kernel
theorem dX11_isAsGeneral_62 : decode cX11_isAsGeneral 62 = .ok (.istore 5, 2) := by decide +kernel
theorem dX11_isAsGeneral_64 : decode cX11_isAsGeneral 64 = .ok (.iload 5, 2) := by decide +kernel
theorem dX11_isAsGeneral_66 : decode cX11_isAsGeneral 66 = .ok (.iconst 3, 1) := by decide +kernel
theorem dX11_isAsGeneral_67 : decode cX11_isAsGeneral 67 = .ok (.if_icmp .ge 22, 3) := by decide +kernel
theorem dX11_isAsGeneral_70 : decode cX11_isAsGeneral 70 = .ok (.iload 5, 2) := by decide +kernel
theorem dX11_isAsGeneral_72 : decode cX11_isAsGeneral 72 = .ok (.aload_n 0, 1) := by decide +kernel
theorem dX11_isAsGeneral_73 : decode cX11_isAsGeneral 73 = .ok (.getfield 125, 3) := by decide +kernel
theorem dX11_isAsGeneral_76 : decode cX11_isAsGeneral 76 = .ok (.iload_n 3, 1) := by decide +kernel
theorem dX11_isAsGeneral_77 : decode cX11_isAsGeneral 77 = .ok (.iaload, 1) := by decide +kernel
theorem dX11_isAsGeneral_78 : decode cX11_isAsGeneral 78 = .ok (.if_icmp .eq 5, 3) := by decide +kernel
theorem dX11_isAsGeneral_81 : decode cX11_isAsGeneral 81 = .ok (.iconst 0, 1) := by decide +kernel
theorem dX11_isAsGeneral_82 : decode cX11_isAsGeneral 82 = .ok (.ireturn, 1) := by decide +kernel
theorem dX11_isAsGeneral_83 : decode cX11_isAsGeneral 83 = .ok (.iinc 3 1, 3) := by decide +kernel
theorem dX11_isAsGeneral_86 : decode cX11_isAsGeneral 86 = .ok (.goto 53, 3) := by decide +kernel
theorem dX11_isAsGeneral_89 : decode cX11_isAsGeneral 89 = .ok (.aload_n 0, 1) := by decide +kernel
theorem dX11_isAsGeneral_90 : decode cX11_isAsGeneral 90 = .ok (.getfield 128, 3) := by decide +kernel
theorem dX11_isAsGeneral_93 : decode cX11_isAsGeneral 93 = .ok (.iload 5, 2) := by decide +kernel
theorem dX11_isAsGeneral_95 : decode cX11_isAsGeneral 95 = .ok (.iconst 3, 1) := by decide +kernel
theorem dX11_isAsGeneral_96 : decode cX11_isAsGeneral 96 = .ok (.isub, 1) := by decide +kernel
theorem dX11_isAsGeneral_97 : decode cX11_isAsGeneral 97 = .ok (.iaload, 1) := by decide +kernel
theorem dX11_isAsGeneral_98 : decode cX11_isAsGeneral 98 = .ok (.ifCond .ge 16, 3) := by decide +kernel
theorem dX11_isAsGeneral_101 : decode cX11_isAsGeneral 101 = .ok (.aload_n 0, 1) := by decide +kernel
theorem dX11_isAsGeneral_102 : decode cX11_isAsGeneral 102 = .ok (.getfield 128, 3) := by decide +kernel
theorem dX11_isAsGeneral_105 : decode cX11_isAsGeneral 105 = .ok (.iload 5, 2) := by decide +kernel
theorem dX11_isAsGeneral_107 : decode cX11_isAsGeneral 107 = .ok (.iconst 3, 1) := by decide +kernel
theorem dX11_isAsGeneral_108 : decode cX11_isAsGeneral 108 = .ok (.isub, 1) := by decide +kernel
theorem dX11_isAsGeneral_109 : decode cX11_isAsGeneral 109 = .ok (.iload_n 3, 1) := by decide +kernel
theorem dX11_isAsGeneral_110 : decode cX11_isAsGeneral 110 = .ok (.iastore, 1) := by decide +kernel
theorem dX11_isAsGeneral_111 : decode cX11_isAsGeneral 111 = .ok (.goto 22, 3) := by decide +kernel
theorem dX11_isAsGeneral_114 : decode cX11_isAsGeneral 114 = .ok (.aload_n 0, 1) := by decide +kernel
theorem dX11_isAsGeneral_115 : decode cX11_isAsGeneral 115 = .ok (.aload_n 0, 1) := by decide +kernel
theorem dX11_isAsGeneral_116 : decode cX11_isAsGeneral 116 = .ok (.getfield 128, 3) := by decide +kernel
theorem dX11_isAsGeneral_119 : decode cX11_isAsGeneral 119 = .ok (.iload 5, 2) := by decide +kernel
theorem dX11_isAsGeneral_121 : decode cX11_isAsGeneral 121 = .ok (.iconst 3, 1) := by decide +kernel
theorem dX11_isAsGeneral_122 : decode cX11_isAsGeneral 122 = .ok (.isub, 1) := by decide +kernel
theorem dX11_isAsGeneral_123 : decode cX11_isAsGeneral 123 = .ok (.iaload, 1) := by decide +kernel
theorem dX11_isAsGeneral_124 : decode cX11_isAsGeneral 124 = .ok (.iload_n 3, 1) := by decide +kernel
theorem dX11_isAsGeneral_125 : decode cX11_isAsGeneral 125 = .ok (.invokevirtual 409, 3) := by decide +kernel
theorem dX11_isAsGeneral_128 : decode cX11_isAsGeneral 128 = .ok (.ifCond .ne 5, 3) := by decide +kernel
theorem dX11_isAsGeneral_131 : decode cX11_isAsGeneral 131 = .ok (.iconst 0, 1) := by decide +kernel
theorem dX11_isAsGeneral_132 : decode cX11_isAsGeneral 132 = .ok (.ireturn, 1) := by decide +kernel
theorem dX11_isAsGeneral_133 : decode cX11_isAsGeneral 133 = .ok (.aload_n 0, 1) := by decide +kernel
theorem dX11_isAsGeneral_134 : decode cX11_isAsGeneral 134 = .ok (.iload_n 3, 1) := by decide +kernel
theorem dX11_isAsGeneral_135 : decode cX11_isAsGeneral 135 = .ok (.invokevirtual 406, 3) := by decide +kernel
theorem dX11_isAsGeneral_138 : decode cX11_isAsGeneral 138 = .ok (.istore_n 3, 1) := by decide +kernel
theorem dX11_isAsGeneral_139 : decode cX11_isAsGeneral 139 = .ok (.iinc 4 1, 3) := by decide +kernel
theorem dX11_isAsGeneral_142 : decode cX11_isAsGeneral 142 = .ok (.goto (-96), 3) := by decide +kernel
theorem dX11_isAsGeneral_145 : decode cX11_isAsGeneral 145 = .ok (.iconst 1, 1) := by decide +kernel
theorem dX11_isAsGeneral_146 : decode cX11_isAsGeneral 146 = .ok (.ireturn, 1) := by decide +kernel
theorem dX11_fitted_0 : decode cX11_fitted 0 = .ok (.aload_n 0, 1) := by decide +kernel
theorem dX11_fitted_1 : decode cX11_fitted 1 = .ok (.iconst 0, 1) := by decide +kernel
theorem dX11_fitted_2 : decode cX11_fitted 2 = .ok (.putfield 213, 3) := by decide +kernel
theorem dX11_fitted_5 : decode cX11_fitted 5 = .ok (.aload_n 0, 1) := by decide +kernel
theorem dX11_fitted_6 : decode cX11_fitted 6 = .ok (.aload_n 0, 1) := by decide +kernel
theorem dX11_fitted_7 : decode cX11_fitted 7 = .ok (.getfield 122, 3) := by decide +kernel
theorem dX11_fitted_10 : decode cX11_fitted 10 = .ok (.iconst 0, 1) := by decide +kernel
theorem dX11_fitted_11 : decode cX11_fitted 11 = .ok (.aload_n 0, 1) := by decide +kernel
theorem dX11_fitted_12 : decode cX11_fitted 12 = .ok (.getfield 394, 3) := by decide +kernel
theorem dX11_fitted_15 : decode cX11_fitted 15 = .ok (.invokevirtual 285, 3) := by decide +kernel
theorem dX11_fitted_18 : decode cX11_fitted 18 = .ok (.istore_n 1, 1) := by decide +kernel
theorem dX11_fitted_19 : decode cX11_fitted 19 = .ok (.aload_n 0, 1) := by decide +kernel
theorem dX11_fitted_20 : decode cX11_fitted 20 = .ok (.aload_n 0, 1) := by decide +kernel
theorem dX11_fitted_21 : decode cX11_fitted 21 = .ok (.getfield 125, 3) := by decide +kernel
theorem dX11_fitted_24 : decode cX11_fitted 24 = .ok (.iconst 0, 1) := by decide +kernel
theorem dX11_fitted_25 : decode cX11_fitted 25 = .ok (.aload_n 0, 1) := by decide +kernel
theorem dX11_fitted_26 : decode cX11_fitted 26 = .ok (.getfield 397, 3) := by decide +kernel
theorem dX11_fitted_29 : decode cX11_fitted 29 = .ok (.invokevirtual 285, 3) := by decide +kernel
theorem dX11_fitted_32 : decode cX11_fitted 32 = .ok (.istore_n 2, 1) := by decide +kernel
theorem dX11_fitted_33 : decode cX11_fitted 33 = .ok (.aload_n 0, 1) := by decide +kernel
theorem dX11_fitted_34 : decode cX11_fitted 34 = .ok (.invokevirtual 239, 3) := by decide +kernel
theorem dX11_fitted_37 : decode cX11_fitted 37 = .ok (.istore_n 3, 1) := by decide +kernel
theorem dX11_fitted_38 : decode cX11_fitted 38 = .ok (.aload_n 0, 1) := by decide +kernel
theorem dX11_fitted_39 : decode cX11_fitted 39 = .ok (.iload_n 1, 1) := by decide +kernel
theorem dX11_fitted_40 : decode cX11_fitted 40 = .ok (.aload_n 0, 1) := by decide +kernel
theorem dX11_fitted_41 : decode cX11_fitted 41 = .ok (.iload_n 2, 1) := by decide +kernel
theorem dX11_fitted_42 : decode cX11_fitted 42 = .ok (.iload_n 3, 1) := by decide +kernel
theorem dX11_fitted_43 : decode cX11_fitted 43 = .ok (.invokevirtual 271, 3) := by decide +kernel
theorem dX11_fitted_46 : decode cX11_fitted 46 = .ok (.invokevirtual 300, 3) := by decide +kernel
theorem dX11_fitted_49 : decode cX11_fitted 49 = .ok (.ifCond .eq 5, 3) := by decide +kernel
theorem dX11_fitted_52 : decode cX11_fitted 52 = .ok (.iconst 0, 1) := by decide +kernel
theorem dX11_fitted_53 : decode cX11_fitted 53 = .ok (.ireturn, 1) := by decide +kernel
theorem dX11_fitted_54 : decode cX11_fitted 54 = .ok (.aload_n 0, 1) := by decide +kernel
theorem dX11_fitted_55 : decode cX11_fitted 55 = .ok (.iload_n 3, 1) := by decide +kernel
theorem dX11_fitted_56 : decode cX11_fitted 56 = .ok (.invokevirtual 297, 3) := by decide +kernel
theorem dX11_fitted_59 : decode cX11_fitted 59 = .ok (.istore 4, 2) := by decide +kernel
theorem dX11_fitted_61 : decode cX11_fitted 61 = .ok (.iload 4, 2) := by decide +kernel
theorem dX11_fitted_63 : decode cX11_fitted 63 = .ok (.sipush 201, 3) := by decide +kernel
theorem dX11_fitted_66 : decode cX11_fitted 66 = .ok (.if_icmp .ne 7, 3) := by decide +kernel
theorem dX11_fitted_69 : decode cX11_fitted 69 = .ok (.iconst 0, 1) := by decide +kernel
theorem dX11_fitted_70 : decode cX11_fitted 70 = .ok (.goto 5, 3) := by decide +kernel
theorem dX11_fitted_73 : decode cX11_fitted 73 = .ok (.iload 4, 2) := by decide +kernel
theorem dX11_fitted_75 : decode cX11_fitted 75 = .ok (.ireturn, 1) := by decide +kernel
theorem dX11_fit_0 : decode cX11_fit 0 = .ok (.aload_n 0, 1) := by decide +kernel
theorem dX11_fit_1 : decode cX11_fit 1 = .ok (.aload_n 0, 1) := by decide +kernel
theorem dX11_fit_2 : decode cX11_fit 2 = .ok (.iload_n 1, 1) := by decide +kernel
theorem dX11_fit_3 : decode cX11_fit 3 = .ok (.iload_n 2, 1) := by decide +kernel
theorem dX11_fit_4 : decode cX11_fit 4 = .ok (.invokevirtual 403, 3) := by decide +kernel
theorem dX11_fit_7 : decode cX11_fit 7 = .ok (.putfield 161, 3) := by decide +kernel
theorem dX11_fit_10 : decode cX11_fit 10 = .ok (.aload_n 0, 1) := by decide +kernel
theorem dX11_fit_11 : decode cX11_fit 11 = .ok (.getfield 161, 3) := by decide +kernel
theorem dX11_fit_14 : decode cX11_fit 14 = .ok (.ifCond .ne 10, 3) := by decide +kernel
theorem dX11_fit_17 : decode cX11_fit 17 = .ok (.aload_n 0, 1) := by decide +kernel
theorem dX11_fit_18 : decode cX11_fit 18 = .ok (.invokevirtual 412, 3) := by decide +kernel
theorem dX11_fit_21 : decode cX11_fit 21 = .ok (.goto 4, 3) := by decide +kernel
theorem dX11_fit_24 : decode cX11_fit 24 = .ok (.iconst 0, 1) := by decide +kernel
theorem dX11_fit_25 : decode cX11_fit 25 = .ok (.istore_n 3, 1) := by decide +kernel
theorem dX11_fit_26 : decode cX11_fit 26 = .ok (.aload_n 0, 1) := by decide +kernel
theorem dX11_fit_27 : decode cX11_fit 27 = .ok (.getfield 161, 3) := by decide +kernel
theorem dX11_fit_30 : decode cX11_fit 30 = .ok (.ifCond .ne 12, 3) := by decide +kernel
theorem dX11_fit_33 : decode cX11_fit 33 = .ok (.iload_n 3, 1) := by decide +kernel
theorem dX11_fit_34 : decode cX11_fit 34 = .ok (.ifCond .ne 8, 3) := by decide +kernel
theorem dX11_fit_37 : decode cX11_fit 37 = .ok (.aload_n 0, 1) := by decide +kernel
theorem dX11_fit_38 : decode cX11_fit 38 = .ok (.iconst 3, 1) := by decide +kernel
theorem dX11_fit_39 : decode cX11_fit 39 = .ok (.putfield 161, 3) := by decide +kernel
theorem dX11_fit_42 : decode cX11_fit 42 = .ok (.iload_n 3, 1) := by decide +kernel
theorem dX11_fit_43 : decode cX11_fit 43 = .ok (.ireturn, 1) := by decide +kernel
theorem dX11_fitting_0 : decode cX11_fitting 0 = .ok (.aload_n 0, 1) := by decide +kernel
theorem dX11_fitting_1 : decode cX11_fitting 1 = .ok (.aload_n 0, 1) := by decide +kernel
theorem dX11_fitting_2 : decode cX11_fitting 2 = .ok (.iload_n 1, 1) := by decide +kernel
theorem dX11_fitting_3 : decode cX11_fitting 3 = .ok (.invokevirtual 361, 3) := by decide +kernel
theorem dX11_fitting_6 : decode cX11_fitting 6 = .ok (.ifCond .ne 7, 3) := by decide +kernel
theorem dX11_fitting_9 : decode cX11_fitting 9 = .ok (.iconst 1, 1) := by decide +kernel
theorem dX11_fitting_10 : decode cX11_fitting 10 = .ok (.goto 16, 3) := by decide +kernel
theorem dX11_fitting_13 : decode cX11_fitting 13 = .ok (.aload_n 0, 1) := by decide +kernel
theorem dX11_fitting_14 : decode cX11_fitting 14 = .ok (.iload_n 1, 1) := by decide +kernel
theorem dX11_fitting_15 : decode cX11_fitting 15 = .ok (.invokevirtual 367, 3) := by decide +kernel
theorem dX11_fitting_18 : decode cX11_fitting 18 = .ok (.ifCond .eq 7, 3) := by decide +kernel
theorem dX11_fitting_21 : decode cX11_fitting 21 = .ok (.iconst 0, 1) := by decide +kernel
theorem dX11_fitting_22 : decode cX11_fitting 22 = .ok (.goto 4, 3) := by decide +kernel
theorem dX11_fitting_25 : decode cX11_fitting 25 = .ok (.iconst 2, 1) := by decide +kernel
theorem dX11_fitting_26 : decode cX11_fitting 26 = .ok (.putfield 161, 3) := by decide +kernel
theorem dX11_fitting_29 : decode cX11_fitting 29 = .ok (.iconst 0, 1) := by decide +kernel
theorem dX11_fitting_30 : decode cX11_fitting 30 = .ok (.istore_n 2, 1) := by decide +kernel
theorem dX11_fitting_31 : decode cX11_fitting 31 = .ok (.iconst 0, 1) := by decide +kernel
theorem dX11_fitting_32 : decode cX11_fitting 32 = .ok (.istore_n 3, 1) := by decide +kernel
theorem dX11_fitting_33 : decode cX11_fitting 33 = .ok (.iload_n 3, 1) := by decide +kernel
theorem dX11_fitting_34 : decode cX11_fitting 34 = .ok (.aload_n 0, 1) := by decide +kernel
theorem dX11_fitting_35 : decode cX11_fitting 35 = .ok (.getfield 13, 3) := by decide +kernel
theorem dX11_fitting_38 : decode cX11_fitting 38 = .ok (.iconst 0, 1) := by decide +kernel
theorem dX11_fitting_39 : decode cX11_fitting 39 = .ok (.iaload, 1) := by decide +kernel
theorem dX11_fitting_40 : decode cX11_fitting 40 = .ok (.if_icmp .ge 40, 3) := by decide +kernel
theorem dX11_fitting_43 : decode cX11_fitting 43 = .ok (.aload_n 0, 1) := by decide +kernel
theorem dX11_fitting_44 : decode cX11_fitting 44 = .ok (.getfield 161, 3) := by decide +kernel
theorem dX11_fitting_47 : decode cX11_fitting 47 = .ok (.ifCond .ne 33, 3) := by decide +kernel
theorem dX11_fitting_50 : decode cX11_fitting 50 = .ok (.iload_n 2, 1) := by decide +kernel
theorem dX11_fitting_51 : decode cX11_fitting 51 = .ok (.aload_n 0, 1) := by decide +kernel
theorem dX11_fitting_52 : decode cX11_fitting 52 = .ok (.iload_n 1, 1) := by decide +kernel
theorem dX11_fitting_53 : decode cX11_fitting 53 = .ok (.iload_n 3, 1) := by decide +kernel
theorem dX11_fitting_54 : decode cX11_fitting 54 = .ok (.invokevirtual 400, 3) := by decide +kernel
theorem dX11_fitting_57 : decode cX11_fitting 57 = .ok (.ifCond .eq 14, 3) := by decide +kernel
theorem dX11_fitting_60 : decode cX11_fitting 60 = .ok (.aload_n 0, 1) := by decide +kernel
theorem dX11_fitting_61 : decode cX11_fitting 61 = .ok (.invokevirtual 412, 3) := by decide +kernel
theorem dX11_fitting_64 : decode cX11_fitting 64 = .ok (.ifCond .le 7, 3) := by decide +kernel
theorem dX11_fitting_67 : decode cX11_fitting 67 = .ok (.iconst 1, 1) := by decide +kernel
theorem dX11_fitting_68 : decode cX11_fitting 68 = .ok (.goto 4, 3) := by decide +kernel
theorem dX11_fitting_71 : decode cX11_fitting 71 = .ok (.iconst 0, 1) := by decide +kernel
theorem dX11_fitting_72 : decode cX11_fitting 72 = .ok (.iadd, 1) := by decide +kernel
theorem dX11_fitting_73 : decode cX11_fitting 73 = .ok (.istore_n 2, 1) := by decide +kernel
theorem dX11_fitting_74 : decode cX11_fitting 74 = .ok (.iinc 3 1, 3) := by decide +kernel
theorem dX11_fitting_77 : decode cX11_fitting 77 = .ok (.goto (-44), 3) := by decide +kernel
theorem dX11_fitting_80 : decode cX11_fitting 80 = .ok (.iload_n 2, 1) := by decide +kernel
theorem dX11_fitting_81 : decode cX11_fitting 81 = .ok (.ireturn, 1) := by decide +kernel
theorem dX11_isKept_0 : decode cX11_isKept 0 = .ok (.aload_n 0, 1) := by decide +kernel
theorem dX11_isKept_1 : decode cX11_isKept 1 = .ok (.iload_n 1, 1) := by decide +kernel
theorem dX11_isKept_2 : decode cX11_isKept 2 = .ok (.iconst 0, 1) := by decide +kernel
theorem dX11_isKept_3 : decode cX11_isKept 3 = .ok (.bipush 7, 2) := by decide +kernel
theorem dX11_isKept_5 : decode cX11_isKept 5 = .ok (.invokestatic 164, 3) := by decide +kernel
theorem dX11_isKept_8 : decode cX11_isKept 8 = .ok (.ifCond .eq 7, 3) := by decide +kernel
theorem dX11_isKept_11 : decode cX11_isKept 11 = .ok (.iconst 0, 1) := by decide +kernel
theorem dX11_isKept_12 : decode cX11_isKept 12 = .ok (.goto 4, 3) := by decide +kernel
theorem dX11_isKept_15 : decode cX11_isKept 15 = .ok (.iconst 1, 1) := by decide +kernel
theorem dX11_isKept_16 : decode cX11_isKept 16 = .ok (.putfield 161, 3) := by decide +kernel
theorem dX11_isKept_19 : decode cX11_isKept 19 = .ok (.aload_n 0, 1) := by decide +kernel
theorem dX11_isKept_20 : decode cX11_isKept 20 = .ok (.getfield 161, 3) := by decide +kernel
theorem dX11_isKept_23 : decode cX11_isKept 23 = .ok (.ifCond .ne 19, 3) := by decide +kernel
theorem dX11_isKept_26 : decode cX11_isKept 26 = .ok (.aload_n 0, 1) := by decide +kernel
theorem dX11_isKept_27 : decode cX11_isKept 27 = .ok (.getfield 13, 3) := by decide +kernel
theorem dX11_isKept_30 : decode cX11_isKept 30 = .ok (.iload_n 1, 1) := by decide +kernel
theorem dX11_isKept_31 : decode cX11_isKept 31 = .ok (.invokestatic 278, 3) := by decide +kernel
theorem dX11_isKept_34 : decode cX11_isKept 34 = .ok (.iaload, 1) := by decide +kernel
theorem dX11_isKept_35 : decode cX11_isKept 35 = .ok (.ifCond .le 7, 3) := by decide +kernel
theorem dX11_isKept_38 : decode cX11_isKept 38 = .ok (.iconst 1, 1) := by decide +kernel
theorem dX11_isKept_39 : decode cX11_isKept 39 = .ok (.goto 4, 3) := by decide +kernel
theorem dX11_isKept_42 : decode cX11_isKept 42 = .ok (.iconst 0, 1) := by decide +kernel
theorem dX11_isKept_43 : decode cX11_isKept 43 = .ok (.ireturn, 1) := by decide +kernel
theorem dX11_largest_0 : decode cX11_largest 0 = .ok (.iconst (-1), 1) := by decide +kernel
theorem dX11_largest_1 : decode cX11_largest 1 = .ok (.istore_n 1, 1) := by decide +kernel
theorem dX11_largest_2 : decode cX11_largest 2 = .ok (.iconst 0, 1) := by decide +kernel
theorem dX11_largest_3 : decode cX11_largest 3 = .ok (.istore_n 2, 1) := by decide +kernel
theorem dX11_largest_4 : decode cX11_largest 4 = .ok (.iconst 0, 1) := by decide +kernel
theorem dX11_largest_5 : decode cX11_largest 5 = .ok (.istore_n 3, 1) := by decide +kernel
theorem dX11_largest_6 : decode cX11_largest 6 = .ok (.iload_n 3, 1) := by decide +kernel
theorem dX11_largest_7 : decode cX11_largest 7 = .ok (.aload_n 0, 1) := by decide +kernel
theorem dX11_largest_8 : decode cX11_largest 8 = .ok (.getfield 13, 3) := by decide +kernel
theorem dX11_largest_11 : decode cX11_largest 11 = .ok (.iconst 0, 1) := by decide +kernel
theorem dX11_largest_12 : decode cX11_largest 12 = .ok (.iaload, 1) := by decide +kernel
theorem dX11_largest_13 : decode cX11_largest 13 = .ok (.if_icmp .ge 58, 3) := by decide +kernel
theorem dX11_largest_16 : decode cX11_largest 16 = .ok (.aload_n 0, 1) := by decide +kernel
theorem dX11_largest_17 : decode cX11_largest 17 = .ok (.iload_n 3, 1) := by decide +kernel
theorem dX11_largest_18 : decode cX11_largest 18 = .ok (.invokevirtual 367, 3) := by decide +kernel
theorem dX11_largest_21 : decode cX11_largest 21 = .ok (.ifCond .eq 16, 3) := by decide +kernel
theorem dX11_largest_24 : decode cX11_largest 24 = .ok (.aload_n 0, 1) := by decide +kernel
theorem dX11_largest_25 : decode cX11_largest 25 = .ok (.aload_n 0, 1) := by decide +kernel
theorem dX11_largest_26 : decode cX11_largest 26 = .ok (.getfield 137, 3) := by decide +kernel
theorem dX11_largest_29 : decode cX11_largest 29 = .ok (.iconst 0, 1) := by decide +kernel
theorem dX11_largest_30 : decode cX11_largest 30 = .ok (.iaload, 1) := by decide +kernel
theorem dX11_largest_31 : decode cX11_largest 31 = .ok (.invokevirtual 297, 3) := by decide +kernel
theorem dX11_largest_34 : decode cX11_largest 34 = .ok (.goto 4, 3) := by decide +kernel
theorem dX11_largest_37 : decode cX11_largest 37 = .ok (.iconst 0, 1) := by decide +kernel
theorem dX11_largest_38 : decode cX11_largest 38 = .ok (.istore 4, 2) := by decide +kernel
theorem dX11_largest_40 : decode cX11_largest 40 = .ok (.iload 4, 2) := by decide +kernel
theorem dX11_largest_42 : decode cX11_largest 42 = .ok (.iload_n 2, 1) := by decide +kernel
theorem dX11_largest_43 : decode cX11_largest 43 = .ok (.if_icmp .le 7, 3) := by decide +kernel
theorem dX11_largest_46 : decode cX11_largest 46 = .ok (.iload_n 3, 1) := by decide +kernel
theorem dX11_largest_47 : decode cX11_largest 47 = .ok (.goto 4, 3) := by decide +kernel
theorem dX11_largest_50 : decode cX11_largest 50 = .ok (.iload_n 1, 1) := by decide +kernel
theorem dX11_largest_51 : decode cX11_largest 51 = .ok (.istore_n 1, 1) := by decide +kernel
theorem dX11_largest_52 : decode cX11_largest 52 = .ok (.iload 4, 2) := by decide +kernel
theorem dX11_largest_54 : decode cX11_largest 54 = .ok (.iload_n 2, 1) := by decide +kernel
theorem dX11_largest_55 : decode cX11_largest 55 = .ok (.if_icmp .le 8, 3) := by decide +kernel
theorem dX11_largest_58 : decode cX11_largest 58 = .ok (.iload 4, 2) := by decide +kernel
theorem dX11_largest_60 : decode cX11_largest 60 = .ok (.goto 4, 3) := by decide +kernel
theorem dX11_largest_63 : decode cX11_largest 63 = .ok (.iload_n 2, 1) := by decide +kernel
theorem dX11_largest_64 : decode cX11_largest 64 = .ok (.istore_n 2, 1) := by decide +kernel
theorem dX11_largest_65 : decode cX11_largest 65 = .ok (.iinc 3 1, 3) := by decide +kernel
theorem dX11_largest_68 : decode cX11_largest 68 = .ok (.goto (-62), 3) := by decide +kernel
theorem dX11_largest_71 : decode cX11_largest 71 = .ok (.aload_n 0, 1) := by decide +kernel
theorem dX11_largest_72 : decode cX11_largest 72 = .ok (.iload_n 1, 1) := by decide +kernel
theorem dX11_largest_73 : decode cX11_largest 73 = .ok (.ifCond .ge 7, 3) := by decide +kernel
theorem dX11_largest_76 : decode cX11_largest 76 = .ok (.iconst 1, 1) := by decide +kernel
theorem dX11_largest_77 : decode cX11_largest 77 = .ok (.goto 4, 3) := by decide +kernel
theorem dX11_largest_80 : decode cX11_largest 80 = .ok (.iconst 0, 1) := by decide +kernel
theorem dX11_largest_81 : decode cX11_largest 81 = .ok (.putfield 161, 3) := by decide +kernel
theorem dX11_largest_84 : decode cX11_largest 84 = .ok (.aload_n 0, 1) := by decide +kernel
theorem dX11_largest_85 : decode cX11_largest 85 = .ok (.getfield 161, 3) := by decide +kernel
theorem dX11_largest_88 : decode cX11_largest 88 = .ok (.ifCond .ne 7, 3) := by decide +kernel
theorem dX11_largest_91 : decode cX11_largest 91 = .ok (.iload_n 1, 1) := by decide +kernel
theorem dX11_largest_92 : decode cX11_largest 92 = .ok (.goto 4, 3) := by decide +kernel
theorem dX11_largest_95 : decode cX11_largest 95 = .ok (.iconst 0, 1) := by decide +kernel
theorem dX11_largest_96 : decode cX11_largest 96 = .ok (.ireturn, 1) := by decide +kernel
theorem dX11_many_0 : decode cX11_many 0 = .ok (.aload_n 0, 1) := by decide +kernel
theorem dX11_many_1 : decode cX11_many 1 = .ok (.iload_n 1, 1) := by decide +kernel
theorem dX11_many_2 : decode cX11_many 2 = .ok (.invokevirtual 315, 3) := by decide +kernel
theorem dX11_many_5 : decode cX11_many 5 = .ok (.aload_n 0, 1) := by decide +kernel
theorem dX11_many_6 : decode cX11_many 6 = .ok (.getfield 203, 3) := by decide +kernel
theorem dX11_many_9 : decode cX11_many 9 = .ok (.ireturn, 1) := by decide +kernel
theorem dX11_ranked_0 : decode cX11_ranked 0 = .ok (.aload_n 0, 1) := by decide +kernel
theorem dX11_ranked_1 : decode cX11_ranked 1 = .ok (.iconst 0, 1) := by decide +kernel
theorem dX11_ranked_2 : decode cX11_ranked 2 = .ok (.putfield 161, 3) := by decide +kernel
theorem dX11_ranked_5 : decode cX11_ranked 5 = .ok (.iconst 0, 1) := by decide +kernel
theorem dX11_ranked_6 : decode cX11_ranked 6 = .ok (.istore_n 2, 1) := by decide +kernel
theorem dX11_ranked_7 : decode cX11_ranked 7 = .ok (.iload_n 2, 1) := by decide +kernel
theorem dX11_ranked_8 : decode cX11_ranked 8 = .ok (.aload_n 0, 1) := by decide +kernel
theorem dX11_ranked_9 : decode cX11_ranked 9 = .ok (.getfield 13, 3) := by decide +kernel
theorem dX11_ranked_12 : decode cX11_ranked 12 = .ok (.iconst 0, 1) := by decide +kernel
theorem dX11_ranked_13 : decode cX11_ranked 13 = .ok (.iaload, 1) := by decide +kernel
theorem dX11_ranked_14 : decode cX11_ranked 14 = .ok (.if_icmp .ge 87, 3) := by decide +kernel
theorem dX11_ranked_17 : decode cX11_ranked 17 = .ok (.iconst 0, 1) := by decide +kernel
theorem dX11_ranked_18 : decode cX11_ranked 18 = .ok (.istore_n 3, 1) := by decide +kernel
theorem dX11_ranked_19 : decode cX11_ranked 19 = .ok (.aload_n 0, 1) := by decide +kernel
theorem dX11_ranked_20 : decode cX11_ranked 20 = .ok (.iload_n 2, 1) := by decide +kernel
theorem dX11_ranked_21 : decode cX11_ranked 21 = .ok (.invokevirtual 415, 3) := by decide +kernel
theorem dX11_ranked_24 : decode cX11_ranked 24 = .ok (.istore 4, 2) := by decide +kernel
theorem dX11_ranked_26 : decode cX11_ranked 26 = .ok (.iconst 0, 1) := by decide +kernel
theorem dX11_ranked_27 : decode cX11_ranked 27 = .ok (.istore 5, 2) := by decide +kernel
theorem dX11_ranked_29 : decode cX11_ranked 29 = .ok (.iload 5, 2) := by decide +kernel
theorem dX11_ranked_31 : decode cX11_ranked 31 = .ok (.aload_n 0, 1) := by decide +kernel
theorem dX11_ranked_32 : decode cX11_ranked 32 = .ok (.getfield 13, 3) := by decide +kernel
theorem dX11_ranked_35 : decode cX11_ranked 35 = .ok (.iconst 0, 1) := by decide +kernel
theorem dX11_ranked_36 : decode cX11_ranked 36 = .ok (.iaload, 1) := by decide +kernel
theorem dX11_ranked_37 : decode cX11_ranked 37 = .ok (.if_icmp .ge 51, 3) := by decide +kernel
theorem dX11_ranked_40 : decode cX11_ranked 40 = .ok (.iload_n 3, 1) := by decide +kernel
theorem dX11_ranked_41 : decode cX11_ranked 41 = .ok (.iload 5, 2) := by decide +kernel
theorem dX11_ranked_43 : decode cX11_ranked 43 = .ok (.iload_n 2, 1) := by decide +kernel
theorem dX11_ranked_44 : decode cX11_ranked 44 = .ok (.if_icmp .eq 35, 3) := by decide +kernel
theorem dX11_ranked_47 : decode cX11_ranked 47 = .ok (.aload_n 0, 1) := by decide +kernel
theorem dX11_ranked_48 : decode cX11_ranked 48 = .ok (.iload 5, 2) := by decide +kernel
theorem dX11_ranked_50 : decode cX11_ranked 50 = .ok (.invokevirtual 415, 3) := by decide +kernel
theorem dX11_ranked_53 : decode cX11_ranked 53 = .ok (.iload 4, 2) := by decide +kernel
theorem dX11_ranked_55 : decode cX11_ranked 55 = .ok (.if_icmp .gt 20, 3) := by decide +kernel
theorem dX11_ranked_58 : decode cX11_ranked 58 = .ok (.aload_n 0, 1) := by decide +kernel
theorem dX11_ranked_59 : decode cX11_ranked 59 = .ok (.iload 5, 2) := by decide +kernel
theorem dX11_ranked_61 : decode cX11_ranked 61 = .ok (.invokevirtual 415, 3) := by decide +kernel
theorem dX11_ranked_64 : decode cX11_ranked 64 = .ok (.iload 4, 2) := by decide +kernel
theorem dX11_ranked_66 : decode cX11_ranked 66 = .ok (.if_icmp .ne 13, 3) := by decide +kernel
theorem dX11_ranked_69 : decode cX11_ranked 69 = .ok (.iload 5, 2) := by decide +kernel
theorem dX11_ranked_71 : decode cX11_ranked 71 = .ok (.iload_n 2, 1) := by decide +kernel
theorem dX11_ranked_72 : decode cX11_ranked 72 = .ok (.if_icmp .ge 7, 3) := by decide +kernel
theorem dX11_ranked_75 : decode cX11_ranked 75 = .ok (.iconst 1, 1) := by decide +kernel
theorem dX11_ranked_76 : decode cX11_ranked 76 = .ok (.goto 4, 3) := by decide +kernel
theorem dX11_ranked_79 : decode cX11_ranked 79 = .ok (.iconst 0, 1) := by decide +kernel
theorem dX11_ranked_80 : decode cX11_ranked 80 = .ok (.iadd, 1) := by decide +kernel
theorem dX11_ranked_81 : decode cX11_ranked 81 = .ok (.istore_n 3, 1) := by decide +kernel
theorem dX11_ranked_82 : decode cX11_ranked 82 = .ok (.iinc 5 1, 3) := by decide +kernel
theorem dX11_ranked_85 : decode cX11_ranked 85 = .ok (.goto (-56), 3) := by decide +kernel
theorem dX11_ranked_88 : decode cX11_ranked 88 = .ok (.iload_n 3, 1) := by decide +kernel
theorem dX11_ranked_89 : decode cX11_ranked 89 = .ok (.iload_n 1, 1) := by decide +kernel
theorem dX11_ranked_90 : decode cX11_ranked 90 = .ok (.if_icmp .ne 5, 3) := by decide +kernel
theorem dX11_ranked_93 : decode cX11_ranked 93 = .ok (.iload_n 2, 1) := by decide +kernel
theorem dX11_ranked_94 : decode cX11_ranked 94 = .ok (.ireturn, 1) := by decide +kernel
theorem dX11_ranked_95 : decode cX11_ranked 95 = .ok (.iinc 2 1, 3) := by decide +kernel
theorem dX11_ranked_98 : decode cX11_ranked 98 = .ok (.goto (-91), 3) := by decide +kernel
theorem dX11_ranked_101 : decode cX11_ranked 101 = .ok (.aload_n 0, 1) := by decide +kernel
theorem dX11_ranked_102 : decode cX11_ranked 102 = .ok (.iconst 1, 1) := by decide +kernel
theorem dX11_ranked_103 : decode cX11_ranked 103 = .ok (.invokevirtual 344, 3) := by decide +kernel
theorem dX11_ranked_106 : decode cX11_ranked 106 = .ok (.ireturn, 1) := by decide +kernel
theorem dX11_isTold_0 : decode cX11_isTold 0 = .ok (.aload_n 0, 1) := by decide +kernel
theorem dX11_isTold_1 : decode cX11_isTold 1 = .ok (.iconst 0, 1) := by decide +kernel
theorem dX11_isTold_2 : decode cX11_isTold 2 = .ok (.putfield 161, 3) := by decide +kernel
theorem dX11_isTold_5 : decode cX11_isTold 5 = .ok (.iconst 1, 1) := by decide +kernel
theorem dX11_isTold_6 : decode cX11_isTold 6 = .ok (.ireturn, 1) := by decide +kernel
theorem dX11_append_0 : decode cX11_append 0 = .ok (.aload_n 0, 1) := by decide +kernel
theorem dX11_append_1 : decode cX11_append 1 = .ok (.iload_n 1, 1) := by decide +kernel
theorem dX11_append_2 : decode cX11_append 2 = .ok (.bipush 33, 2) := by decide +kernel
theorem dX11_append_4 : decode cX11_append 4 = .ok (.bipush 126, 2) := by decide +kernel
theorem dX11_append_6 : decode cX11_append 6 = .ok (.invokestatic 164, 3) := by decide +kernel
theorem dX11_append_9 : decode cX11_append 9 = .ok (.ifCond .ne 7, 3) := by decide +kernel
theorem dX11_append_12 : decode cX11_append 12 = .ok (.iconst 1, 1) := by decide +kernel
theorem dX11_append_13 : decode cX11_append 13 = .ok (.goto 17, 3) := by decide +kernel
theorem dX11_append_16 : decode cX11_append 16 = .ok (.aload_n 0, 1) := by decide +kernel
theorem dX11_append_17 : decode cX11_append 17 = .ok (.getfield 353, 3) := by decide +kernel
theorem dX11_append_20 : decode cX11_append 20 = .ok (.bipush 60, 2) := by decide +kernel
theorem dX11_append_22 : decode cX11_append 22 = .ok (.if_icmp .ne 7, 3) := by decide +kernel
theorem dX11_append_25 : decode cX11_append 25 = .ok (.iconst 2, 1) := by decide +kernel
theorem dX11_append_26 : decode cX11_append 26 = .ok (.goto 4, 3) := by decide +kernel
theorem dX11_append_29 : decode cX11_append 29 = .ok (.iconst 0, 1) := by decide +kernel
theorem dX11_append_30 : decode cX11_append 30 = .ok (.putfield 161, 3) := by decide +kernel
theorem dX11_append_33 : decode cX11_append 33 = .ok (.aload_n 0, 1) := by decide +kernel
theorem dX11_append_34 : decode cX11_append 34 = .ok (.getfield 161, 3) := by decide +kernel
theorem dX11_append_37 : decode cX11_append 37 = .ok (.ifCond .eq 5, 3) := by decide +kernel
theorem dX11_append_40 : decode cX11_append 40 = .ok (.iconst 0, 1) := by decide +kernel
theorem dX11_append_41 : decode cX11_append 41 = .ok (.ireturn, 1) := by decide +kernel
theorem dX11_append_42 : decode cX11_append 42 = .ok (.aload_n 0, 1) := by decide +kernel
theorem dX11_append_43 : decode cX11_append 43 = .ok (.getfield 149, 3) := by decide +kernel
theorem dX11_append_46 : decode cX11_append 46 = .ok (.aload_n 0, 1) := by decide +kernel
theorem dX11_append_47 : decode cX11_append 47 = .ok (.getfield 353, 3) := by decide +kernel
theorem dX11_append_50 : decode cX11_append 50 = .ok (.iload_n 1, 1) := by decide +kernel
theorem dX11_append_51 : decode cX11_append 51 = .ok (.iastore, 1) := by decide +kernel
theorem dX11_append_52 : decode cX11_append 52 = .ok (.aload_n 0, 1) := by decide +kernel
theorem dX11_append_53 : decode cX11_append 53 = .ok (.dup, 1) := by decide +kernel
theorem dX11_append_54 : decode cX11_append 54 = .ok (.getfield 353, 3) := by decide +kernel
theorem dX11_append_57 : decode cX11_append 57 = .ok (.iconst 1, 1) := by decide +kernel
theorem dX11_append_58 : decode cX11_append 58 = .ok (.iadd, 1) := by decide +kernel
theorem dX11_append_59 : decode cX11_append 59 = .ok (.putfield 353, 3) := by decide +kernel
theorem dX11_append_62 : decode cX11_append 62 = .ok (.aload_n 0, 1) := by decide +kernel
theorem dX11_append_63 : decode cX11_append 63 = .ok (.getfield 353, 3) := by decide +kernel
theorem dX11_append_66 : decode cX11_append 66 = .ok (.ireturn, 1) := by decide +kernel
theorem dX11_next_0 : decode cX11_next 0 = .ok (.aload_n 0, 1) := by decide +kernel
theorem dX11_next_1 : decode cX11_next 1 = .ok (.getfield 418, 3) := by decide +kernel
theorem dX11_next_4 : decode cX11_next 4 = .ok (.aload_n 0, 1) := by decide +kernel
theorem dX11_next_5 : decode cX11_next 5 = .ok (.getfield 421, 3) := by decide +kernel
theorem dX11_next_8 : decode cX11_next 8 = .ok (.if_icmp .ge 15, 3) := by decide +kernel
theorem dX11_next_11 : decode cX11_next 11 = .ok (.aload_n 0, 1) := by decide +kernel
theorem dX11_next_12 : decode cX11_next 12 = .ok (.getfield 149, 3) := by decide +kernel
theorem dX11_next_15 : decode cX11_next 15 = .ok (.aload_n 0, 1) := by decide +kernel
theorem dX11_next_16 : decode cX11_next 16 = .ok (.getfield 418, 3) := by decide +kernel
theorem dX11_next_19 : decode cX11_next 19 = .ok (.iaload, 1) := by decide +kernel
theorem dX11_next_20 : decode cX11_next 20 = .ok (.goto 4, 3) := by decide +kernel
theorem dX11_next_23 : decode cX11_next 23 = .ok (.iconst (-1), 1) := by decide +kernel
theorem dX11_next_24 : decode cX11_next 24 = .ok (.ireturn, 1) := by decide +kernel
theorem dX11_isOrder_0 : decode cX11_isOrder 0 = .ok (.aload_n 0, 1) := by decide +kernel
theorem dX11_isOrder_1 : decode cX11_isOrder 1 = .ok (.invokevirtual 424, 3) := by decide +kernel
theorem dX11_isOrder_4 : decode cX11_isOrder 4 = .ok (.istore_n 2, 1) := by decide +kernel
theorem dX11_isOrder_5 : decode cX11_isOrder 5 = .ok (.iconst 0, 1) := by decide +kernel
theorem dX11_isOrder_6 : decode cX11_isOrder 6 = .ok (.istore_n 3, 1) := by decide +kernel
theorem dX11_isOrder_7 : decode cX11_isOrder 7 = .ok (.iconst 0, 1) := by decide +kernel
theorem dX11_isOrder_8 : decode cX11_isOrder 8 = .ok (.istore 4, 2) := by decide +kernel
theorem dX11_isOrder_10 : decode cX11_isOrder 10 = .ok (.iload_n 2, 1) := by decide +kernel
theorem dX11_isOrder_11 : decode cX11_isOrder 11 = .ok (.bipush 107, 2) := by decide +kernel
theorem dX11_isOrder_13 : decode cX11_isOrder 13 = .ok (.if_icmp .eq 17, 3) := by decide +kernel
theorem dX11_isOrder_16 : decode cX11_isOrder 16 = .ok (.iload_n 2, 1) := by decide +kernel
theorem dX11_isOrder_17 : decode cX11_isOrder 17 = .ok (.bipush 117, 2) := by decide +kernel
theorem dX11_isOrder_19 : decode cX11_isOrder 19 = .ok (.if_icmp .eq 11, 3) := by decide +kernel
theorem dX11_isOrder_22 : decode cX11_isOrder 22 = .ok (.iload_n 2, 1) := by decide +kernel
theorem dX11_isOrder_23 : decode cX11_isOrder 23 = .ok (.bipush 120, 2) := by decide +kernel
theorem dX11_isOrder_25 : decode cX11_isOrder 25 = .ok (.if_icmp .eq 5, 3) := by decide +kernel
theorem dX11_isOrder_28 : decode cX11_isOrder 28 = .ok (.iconst 0, 1) := by decide +kernel
theorem dX11_isOrder_29 : decode cX11_isOrder 29 = .ok (.ireturn, 1) := by decide +kernel
theorem dX11_isOrder_30 : decode cX11_isOrder 30 = .ok (.aload_n 0, 1) := by decide +kernel
theorem dX11_isOrder_31 : decode cX11_isOrder 31 = .ok (.dup, 1) := by decide +kernel
theorem dX11_isOrder_32 : decode cX11_isOrder 32 = .ok (.getfield 418, 3) := by decide +kernel
theorem dX11_isOrder_35 : decode cX11_isOrder 35 = .ok (.iconst 1, 1) := by decide +kernel
theorem dX11_isOrder_36 : decode cX11_isOrder 36 = .ok (.iadd, 1) := by decide +kernel
theorem dX11_isOrder_37 : decode cX11_isOrder 37 = .ok (.putfield 418, 3) := by decide +kernel
theorem dX11_isOrder_40 : decode cX11_isOrder 40 = .ok (.iload_n 2, 1) := by decide +kernel
theorem dX11_isOrder_41 : decode cX11_isOrder 41 = .ok (.bipush 117, 2) := by decide +kernel
theorem dX11_isOrder_43 : decode cX11_isOrder 43 = .ok (.if_icmp .eq 37, 3) := by decide +kernel
theorem dX11_isOrder_46 : decode cX11_isOrder 46 = .ok (.aload_n 0, 1) := by decide +kernel
theorem dX11_isOrder_47 : decode cX11_isOrder 47 = .ok (.invokevirtual 424, 3) := by decide +kernel
theorem dX11_isOrder_50 : decode cX11_isOrder 50 = .ok (.bipush 48, 2) := by decide +kernel
theorem dX11_isOrder_52 : decode cX11_isOrder 52 = .ok (.bipush 57, 2) := by decide +kernel
theorem dX11_isOrder_54 : decode cX11_isOrder 54 = .ok (.invokestatic 164, 3) := by decide +kernel
theorem dX11_isOrder_57 : decode cX11_isOrder 57 = .ok (.ifCond .ne 5, 3) := by decide +kernel
theorem dX11_isOrder_60 : decode cX11_isOrder 60 = .ok (.iconst 0, 1) := by decide +kernel
theorem dX11_isOrder_61 : decode cX11_isOrder 61 = .ok (.ireturn, 1) := by decide +kernel
theorem dX11_isOrder_62 : decode cX11_isOrder 62 = .ok (.aload_n 0, 1) := by decide +kernel
theorem dX11_isOrder_63 : decode cX11_isOrder 63 = .ok (.invokevirtual 424, 3) := by decide +kernel
theorem dX11_isOrder_66 : decode cX11_isOrder 66 = .ok (.bipush 48, 2) := by decide +kernel
theorem dX11_isOrder_68 : decode cX11_isOrder 68 = .ok (.isub, 1) := by decide +kernel
theorem dX11_isOrder_69 : decode cX11_isOrder 69 = .ok (.istore_n 3, 1) := by decide +kernel
theorem dX11_isOrder_70 : decode cX11_isOrder 70 = .ok (.aload_n 0, 1) := by decide +kernel
theorem dX11_isOrder_71 : decode cX11_isOrder 71 = .ok (.dup, 1) := by decide +kernel
theorem dX11_isOrder_72 : decode cX11_isOrder 72 = .ok (.getfield 418, 3) := by decide +kernel
theorem dX11_isOrder_75 : decode cX11_isOrder 75 = .ok (.iconst 1, 1) := by decide +kernel
theorem dX11_isOrder_76 : decode cX11_isOrder 76 = .ok (.iadd, 1) := by decide +kernel
theorem dX11_isOrder_77 : decode cX11_isOrder 77 = .ok (.putfield 418, 3) := by decide +kernel
theorem dX11_isOrder_80 : decode cX11_isOrder 80 = .ok (.iload_n 2, 1) := by decide +kernel
theorem dX11_isOrder_81 : decode cX11_isOrder 81 = .ok (.bipush 120, 2) := by decide +kernel
theorem dX11_isOrder_83 : decode cX11_isOrder 83 = .ok (.if_icmp .eq 34, 3) := by decide +kernel
theorem dX11_isOrder_86 : decode cX11_isOrder 86 = .ok (.aload_n 0, 1) := by decide +kernel
theorem dX11_isOrder_87 : decode cX11_isOrder 87 = .ok (.invokevirtual 424, 3) := by decide +kernel
theorem dX11_isOrder_90 : decode cX11_isOrder 90 = .ok (.invokestatic 182, 3) := by decide +kernel
theorem dX11_isOrder_93 : decode cX11_isOrder 93 = .ok (.ifCond .ne 5, 3) := by decide +kernel
theorem dX11_isOrder_96 : decode cX11_isOrder 96 = .ok (.iconst 0, 1) := by decide +kernel
theorem dX11_isOrder_97 : decode cX11_isOrder 97 = .ok (.ireturn, 1) := by decide +kernel
theorem dX11_isOrder_98 : decode cX11_isOrder 98 = .ok (.aload_n 0, 1) := by decide +kernel
theorem dX11_isOrder_99 : decode cX11_isOrder 99 = .ok (.invokevirtual 424, 3) := by decide +kernel
theorem dX11_isOrder_102 : decode cX11_isOrder 102 = .ok (.bipush 65, 2) := by decide +kernel
theorem dX11_isOrder_104 : decode cX11_isOrder 104 = .ok (.isub, 1) := by decide +kernel
theorem dX11_isOrder_105 : decode cX11_isOrder 105 = .ok (.istore 4, 2) := by decide +kernel
theorem dX11_isOrder_107 : decode cX11_isOrder 107 = .ok (.aload_n 0, 1) := by decide +kernel
theorem dX11_isOrder_108 : decode cX11_isOrder 108 = .ok (.dup, 1) := by decide +kernel
theorem dX11_isOrder_109 : decode cX11_isOrder 109 = .ok (.getfield 418, 3) := by decide +kernel
theorem dX11_isOrder_112 : decode cX11_isOrder 112 = .ok (.iconst 1, 1) := by decide +kernel
theorem dX11_isOrder_113 : decode cX11_isOrder 113 = .ok (.iadd, 1) := by decide +kernel
theorem dX11_isOrder_114 : decode cX11_isOrder 114 = .ok (.putfield 418, 3) := by decide +kernel
theorem dX11_isOrder_117 : decode cX11_isOrder 117 = .ok (.iload_n 1, 1) := by decide +kernel
theorem dX11_isOrder_118 : decode cX11_isOrder 118 = .ok (.ifCond .eq 40, 3) := by decide +kernel
theorem dX11_isOrder_121 : decode cX11_isOrder 121 = .ok (.iload_n 2, 1) := by decide +kernel
theorem dX11_isOrder_122 : decode cX11_isOrder 122 = .ok (.bipush 107, 2) := by decide +kernel
theorem dX11_isOrder_124 : decode cX11_isOrder 124 = .ok (.if_icmp .ne 13, 3) := by decide +kernel
theorem dX11_isOrder_127 : decode cX11_isOrder 127 = .ok (.aload_n 0, 1) := by decide +kernel
theorem dX11_isOrder_128 : decode cX11_isOrder 128 = .ok (.iload_n 3, 1) := by decide +kernel
theorem dX11_isOrder_129 : decode cX11_isOrder 129 = .ok (.iload 4, 2) := by decide +kernel
theorem dX11_isOrder_131 : decode cX11_isOrder 131 = .ok (.invokevirtual 373, 3) := by decide +kernel
theorem dX11_isOrder_134 : decode cX11_isOrder 134 = .ok (.goto 23, 3) := by decide +kernel
theorem dX11_isOrder_137 : decode cX11_isOrder 137 = .ok (.iload_n 2, 1) := by decide +kernel
theorem dX11_isOrder_138 : decode cX11_isOrder 138 = .ok (.bipush 117, 2) := by decide +kernel
theorem dX11_isOrder_140 : decode cX11_isOrder 140 = .ok (.if_icmp .ne 12, 3) := by decide +kernel
theorem dX11_isOrder_143 : decode cX11_isOrder 143 = .ok (.aload_n 0, 1) := by decide +kernel
theorem dX11_isOrder_144 : decode cX11_isOrder 144 = .ok (.iload 4, 2) := by decide +kernel
theorem dX11_isOrder_146 : decode cX11_isOrder 146 = .ok (.invokevirtual 376, 3) := by decide +kernel
theorem dX11_isOrder_149 : decode cX11_isOrder 149 = .ok (.goto 8, 3) := by decide +kernel
theorem dX11_isOrder_152 : decode cX11_isOrder 152 = .ok (.aload_n 0, 1) := by decide +kernel
theorem dX11_isOrder_153 : decode cX11_isOrder 153 = .ok (.iload_n 3, 1) := by decide +kernel
theorem dX11_isOrder_154 : decode cX11_isOrder 154 = .ok (.invokevirtual 364, 3) := by decide +kernel
theorem dX11_isOrder_157 : decode cX11_isOrder 157 = .ok (.istore_n 3, 1) := by decide +kernel
theorem dX11_isOrder_158 : decode cX11_isOrder 158 = .ok (.iconst 1, 1) := by decide +kernel
theorem dX11_isOrder_159 : decode cX11_isOrder 159 = .ok (.ireturn, 1) := by decide +kernel
theorem dX11_areOrders_0 : decode cX11_areOrders 0 = .ok (.aload_n 0, 1) := by decide +kernel
theorem dX11_areOrders_1 : decode cX11_areOrders 1 = .ok (.iconst 0, 1) := by decide +kernel
theorem dX11_areOrders_2 : decode cX11_areOrders 2 = .ok (.putfield 418, 3) := by decide +kernel
theorem dX11_areOrders_5 : decode cX11_areOrders 5 = .ok (.aload_n 0, 1) := by decide +kernel
theorem dX11_areOrders_6 : decode cX11_areOrders 6 = .ok (.iconst 0, 1) := by decide +kernel
theorem dX11_areOrders_7 : decode cX11_areOrders 7 = .ok (.putfield 427, 3) := by decide +kernel
theorem dX11_areOrders_10 : decode cX11_areOrders 10 = .ok (.aload_n 0, 1) := by decide +kernel
theorem dX11_areOrders_11 : decode cX11_areOrders 11 = .ok (.iload_n 1, 1) := by decide +kernel
theorem dX11_areOrders_12 : decode cX11_areOrders 12 = .ok (.invokevirtual 430, 3) := by decide +kernel
theorem dX11_areOrders_15 : decode cX11_areOrders 15 = .ok (.ifCond .ne 5, 3) := by decide +kernel
theorem dX11_areOrders_18 : decode cX11_areOrders 18 = .ok (.iconst 0, 1) := by decide +kernel
theorem dX11_areOrders_19 : decode cX11_areOrders 19 = .ok (.ireturn, 1) := by decide +kernel
theorem dX11_areOrders_20 : decode cX11_areOrders 20 = .ok (.aload_n 0, 1) := by decide +kernel
theorem dX11_areOrders_21 : decode cX11_areOrders 21 = .ok (.getfield 418, 3) := by decide +kernel
theorem dX11_areOrders_24 : decode cX11_areOrders 24 = .ok (.aload_n 0, 1) := by decide +kernel
theorem dX11_areOrders_25 : decode cX11_areOrders 25 = .ok (.getfield 421, 3) := by decide +kernel
theorem dX11_areOrders_28 : decode cX11_areOrders 28 = .ok (.if_icmp .ge 51, 3) := by decide +kernel
theorem dX11_areOrders_31 : decode cX11_areOrders 31 = .ok (.aload_n 0, 1) := by decide +kernel
theorem dX11_areOrders_32 : decode cX11_areOrders 32 = .ok (.getfield 321, 3) := by decide +kernel
theorem dX11_areOrders_35 : decode cX11_areOrders 35 = .ok (.ifCond .ne 44, 3) := by decide +kernel
theorem dX11_areOrders_38 : decode cX11_areOrders 38 = .ok (.aload_n 0, 1) := by decide +kernel
theorem dX11_areOrders_39 : decode cX11_areOrders 39 = .ok (.invokevirtual 424, 3) := by decide +kernel
theorem dX11_areOrders_42 : decode cX11_areOrders 42 = .ok (.bipush 59, 2) := by decide +kernel
theorem dX11_areOrders_44 : decode cX11_areOrders 44 = .ok (.if_icmp .eq 5, 3) := by decide +kernel
theorem dX11_areOrders_47 : decode cX11_areOrders 47 = .ok (.iconst 0, 1) := by decide +kernel
theorem dX11_areOrders_48 : decode cX11_areOrders 48 = .ok (.ireturn, 1) := by decide +kernel
theorem dX11_areOrders_49 : decode cX11_areOrders 49 = .ok (.aload_n 0, 1) := by decide +kernel
theorem dX11_areOrders_50 : decode cX11_areOrders 50 = .ok (.dup, 1) := by decide +kernel
theorem dX11_areOrders_51 : decode cX11_areOrders 51 = .ok (.getfield 418, 3) := by decide +kernel
theorem dX11_areOrders_54 : decode cX11_areOrders 54 = .ok (.iconst 1, 1) := by decide +kernel
theorem dX11_areOrders_55 : decode cX11_areOrders 55 = .ok (.iadd, 1) := by decide +kernel
theorem dX11_areOrders_56 : decode cX11_areOrders 56 = .ok (.putfield 418, 3) := by decide +kernel
theorem dX11_areOrders_59 : decode cX11_areOrders 59 = .ok (.aload_n 0, 1) := by decide +kernel
theorem dX11_areOrders_60 : decode cX11_areOrders 60 = .ok (.dup, 1) := by decide +kernel
theorem dX11_areOrders_61 : decode cX11_areOrders 61 = .ok (.getfield 427, 3) := by decide +kernel
theorem dX11_areOrders_64 : decode cX11_areOrders 64 = .ok (.iconst 1, 1) := by decide +kernel
theorem dX11_areOrders_65 : decode cX11_areOrders 65 = .ok (.iadd, 1) := by decide +kernel
theorem dX11_areOrders_66 : decode cX11_areOrders 66 = .ok (.putfield 427, 3) := by decide +kernel
theorem dX11_areOrders_69 : decode cX11_areOrders 69 = .ok (.aload_n 0, 1) := by decide +kernel
theorem dX11_areOrders_70 : decode cX11_areOrders 70 = .ok (.iload_n 1, 1) := by decide +kernel
theorem dX11_areOrders_71 : decode cX11_areOrders 71 = .ok (.invokevirtual 430, 3) := by decide +kernel
theorem dX11_areOrders_74 : decode cX11_areOrders 74 = .ok (.ifCond .ne (-54), 3) := by decide +kernel
theorem dX11_areOrders_77 : decode cX11_areOrders 77 = .ok (.iconst 0, 1) := by decide +kernel
theorem dX11_areOrders_78 : decode cX11_areOrders 78 = .ok (.ireturn, 1) := by decide +kernel
theorem dX11_areOrders_79 : decode cX11_areOrders 79 = .ok (.iconst 1, 1) := by decide +kernel
theorem dX11_areOrders_80 : decode cX11_areOrders 80 = .ok (.ireturn, 1) := by decide +kernel
theorem dX11_run_0 : decode cX11_run 0 = .ok (.aload_n 0, 1) := by decide +kernel
theorem dX11_run_1 : decode cX11_run 1 = .ok (.invokevirtual 350, 3) := by decide +kernel
theorem dX11_run_4 : decode cX11_run 4 = .ok (.aload_n 0, 1) := by decide +kernel
theorem dX11_run_5 : decode cX11_run 5 = .ok (.aload_n 0, 1) := by decide +kernel
theorem dX11_run_6 : decode cX11_run 6 = .ok (.getfield 353, 3) := by decide +kernel
theorem dX11_run_9 : decode cX11_run 9 = .ok (.putfield 421, 3) := by decide +kernel
theorem dX11_run_12 : decode cX11_run 12 = .ok (.aload_n 0, 1) := by decide +kernel
theorem dX11_run_13 : decode cX11_run 13 = .ok (.iconst 0, 1) := by decide +kernel
theorem dX11_run_14 : decode cX11_run 14 = .ok (.putfield 353, 3) := by decide +kernel
theorem dX11_run_17 : decode cX11_run 17 = .ok (.aload_n 0, 1) := by decide +kernel
theorem dX11_run_18 : decode cX11_run 18 = .ok (.aload_n 0, 1) := by decide +kernel
theorem dX11_run_19 : decode cX11_run 19 = .ok (.iconst 0, 1) := by decide +kernel
theorem dX11_run_20 : decode cX11_run 20 = .ok (.invokevirtual 434, 3) := by decide +kernel
theorem dX11_run_23 : decode cX11_run 23 = .ok (.ifCond .eq 7, 3) := by decide +kernel
theorem dX11_run_26 : decode cX11_run 26 = .ok (.iconst (-1), 1) := by decide +kernel
theorem dX11_run_27 : decode cX11_run 27 = .ok (.goto 7, 3) := by decide +kernel
theorem dX11_run_30 : decode cX11_run 30 = .ok (.aload_n 0, 1) := by decide +kernel
theorem dX11_run_31 : decode cX11_run 31 = .ok (.getfield 418, 3) := by decide +kernel
theorem dX11_run_34 : decode cX11_run 34 = .ok (.putfield 7, 3) := by decide +kernel
theorem dX11_run_37 : decode cX11_run 37 = .ok (.aload_n 0, 1) := by decide +kernel
theorem dX11_run_38 : decode cX11_run 38 = .ok (.getfield 7, 3) := by decide +kernel
theorem dX11_run_41 : decode cX11_run 41 = .ok (.ifCond .lt 9, 3) := by decide +kernel
theorem dX11_run_44 : decode cX11_run 44 = .ok (.aload_n 0, 1) := by decide +kernel
theorem dX11_run_45 : decode cX11_run 45 = .ok (.iconst 1, 1) := by decide +kernel
theorem dX11_run_46 : decode cX11_run 46 = .ok (.invokevirtual 344, 3) := by decide +kernel
theorem dX11_run_49 : decode cX11_run 49 = .ok (.ireturn, 1) := by decide +kernel
theorem dX11_run_50 : decode cX11_run 50 = .ok (.aload_n 0, 1) := by decide +kernel
theorem dX11_run_51 : decode cX11_run 51 = .ok (.iconst 1, 1) := by decide +kernel
theorem dX11_run_52 : decode cX11_run 52 = .ok (.invokevirtual 434, 3) := by decide +kernel
theorem dX11_run_55 : decode cX11_run 55 = .ok (.istore_n 1, 1) := by decide +kernel
theorem dX11_run_56 : decode cX11_run 56 = .ok (.aload_n 0, 1) := by decide +kernel
theorem dX11_run_57 : decode cX11_run 57 = .ok (.getfield 321, 3) := by decide +kernel
theorem dX11_run_60 : decode cX11_run 60 = .ok (.ifCond .ne 15, 3) := by decide +kernel
theorem dX11_run_63 : decode cX11_run 63 = .ok (.aload_n 0, 1) := by decide +kernel
theorem dX11_run_64 : decode cX11_run 64 = .ok (.aload_n 0, 1) := by decide +kernel
theorem dX11_run_65 : decode cX11_run 65 = .ok (.getfield 427, 3) := by decide +kernel
theorem dX11_run_68 : decode cX11_run 68 = .ok (.iconst 1, 1) := by decide +kernel
theorem dX11_run_69 : decode cX11_run 69 = .ok (.iadd, 1) := by decide +kernel
theorem dX11_run_70 : decode cX11_run 70 = .ok (.iconst 2, 1) := by decide +kernel
theorem dX11_run_71 : decode cX11_run 71 = .ok (.invokevirtual 359, 3) := by decide +kernel
theorem dX11_run_74 : decode cX11_run 74 = .ok (.ireturn, 1) := by decide +kernel
theorem dX11_run_75 : decode cX11_run 75 = .ok (.aload_n 0, 1) := by decide +kernel
theorem dX11_run_76 : decode cX11_run 76 = .ok (.getfield 325, 3) := by decide +kernel
theorem dX11_run_79 : decode cX11_run 79 = .ok (.istore_n 2, 1) := by decide +kernel
theorem dX11_run_80 : decode cX11_run 80 = .ok (.aload_n 0, 1) := by decide +kernel
theorem dX11_run_81 : decode cX11_run 81 = .ok (.getfield 328, 3) := by decide +kernel
theorem dX11_run_84 : decode cX11_run 84 = .ok (.istore_n 3, 1) := by decide +kernel
theorem dX11_run_85 : decode cX11_run 85 = .ok (.aload_n 0, 1) := by decide +kernel
theorem dX11_run_86 : decode cX11_run 86 = .ok (.aload_n 0, 1) := by decide +kernel
theorem dX11_run_87 : decode cX11_run 87 = .ok (.bipush 9, 2) := by decide +kernel
theorem dX11_run_89 : decode cX11_run 89 = .ok (.aload_n 0, 1) := by decide +kernel
theorem dX11_run_90 : decode cX11_run 90 = .ok (.getfield 427, 3) := by decide +kernel
theorem dX11_run_93 : decode cX11_run 93 = .ok (.invokevirtual 356, 3) := by decide +kernel
theorem dX11_run_96 : decode cX11_run 96 = .ok (.iconst 2, 1) := by decide +kernel
theorem dX11_run_97 : decode cX11_run 97 = .ok (.invokevirtual 359, 3) := by decide +kernel
theorem dX11_run_100 : decode cX11_run 100 = .ok (.istore 4, 2) := by decide +kernel
theorem dX11_run_102 : decode cX11_run 102 = .ok (.aload_n 0, 1) := by decide +kernel
theorem dX11_run_103 : decode cX11_run 103 = .ok (.iload_n 2, 1) := by decide +kernel
theorem dX11_run_104 : decode cX11_run 104 = .ok (.putfield 341, 3) := by decide +kernel
theorem dX11_run_107 : decode cX11_run 107 = .ok (.aload_n 0, 1) := by decide +kernel
theorem dX11_run_108 : decode cX11_run 108 = .ok (.iload_n 3, 1) := by decide +kernel
theorem dX11_run_109 : decode cX11_run 109 = .ok (.putfield 437, 3) := by decide +kernel
theorem dX11_run_112 : decode cX11_run 112 = .ok (.iload 4, 2) := by decide +kernel
theorem dX11_run_114 : decode cX11_run 114 = .ok (.ireturn, 1) := by decide +kernel
theorem dX11_faultPosition_0 : decode cX11_faultPosition 0 = .ok (.aload_n 0, 1) := by decide +kernel
theorem dX11_faultPosition_1 : decode cX11_faultPosition 1 = .ok (.iconst 0, 1) := by decide +kernel
theorem dX11_faultPosition_2 : decode cX11_faultPosition 2 = .ok (.putfield 161, 3) := by decide +kernel
theorem dX11_faultPosition_5 : decode cX11_faultPosition 5 = .ok (.aload_n 0, 1) := by decide +kernel
theorem dX11_faultPosition_6 : decode cX11_faultPosition 6 = .ok (.getfield 7, 3) := by decide +kernel
theorem dX11_faultPosition_9 : decode cX11_faultPosition 9 = .ok (.ireturn, 1) := by decide +kernel
theorem dX11_reason_0 : decode cX11_reason 0 = .ok (.aload_n 0, 1) := by decide +kernel
theorem dX11_reason_1 : decode cX11_reason 1 = .ok (.iload_n 1, 1) := by decide +kernel
theorem dX11_reason_2 : decode cX11_reason 2 = .ok (.iconst 0, 1) := by decide +kernel
theorem dX11_reason_3 : decode cX11_reason 3 = .ok (.iconst 1, 1) := by decide +kernel
theorem dX11_reason_4 : decode cX11_reason 4 = .ok (.invokestatic 164, 3) := by decide +kernel
theorem dX11_reason_7 : decode cX11_reason 7 = .ok (.ifCond .ne 7, 3) := by decide +kernel
theorem dX11_reason_10 : decode cX11_reason 10 = .ok (.iconst 1, 1) := by decide +kernel
theorem dX11_reason_11 : decode cX11_reason 11 = .ok (.goto 27, 3) := by decide +kernel
theorem dX11_reason_14 : decode cX11_reason 14 = .ok (.aload_n 0, 1) := by decide +kernel
theorem dX11_reason_15 : decode cX11_reason 15 = .ok (.getfield 335, 3) := by decide +kernel
theorem dX11_reason_18 : decode cX11_reason 18 = .ok (.ifCond .eq 15, 3) := by decide +kernel
theorem dX11_reason_21 : decode cX11_reason 21 = .ok (.iload_n 1, 1) := by decide +kernel
theorem dX11_reason_22 : decode cX11_reason 22 = .ok (.iconst 1, 1) := by decide +kernel
theorem dX11_reason_23 : decode cX11_reason 23 = .ok (.if_icmp .ne 14, 3) := by decide +kernel
theorem dX11_reason_26 : decode cX11_reason 26 = .ok (.aload_n 0, 1) := by decide +kernel
theorem dX11_reason_27 : decode cX11_reason 27 = .ok (.getfield 341, 3) := by decide +kernel
theorem dX11_reason_30 : decode cX11_reason 30 = .ok (.ifCond .ne 7, 3) := by decide +kernel
theorem dX11_reason_33 : decode cX11_reason 33 = .ok (.iconst 2, 1) := by decide +kernel
theorem dX11_reason_34 : decode cX11_reason 34 = .ok (.goto 4, 3) := by decide +kernel
theorem dX11_reason_37 : decode cX11_reason 37 = .ok (.iconst 0, 1) := by decide +kernel
theorem dX11_reason_38 : decode cX11_reason 38 = .ok (.putfield 161, 3) := by decide +kernel
theorem dX11_reason_41 : decode cX11_reason 41 = .ok (.aload_n 0, 1) := by decide +kernel
theorem dX11_reason_42 : decode cX11_reason 42 = .ok (.getfield 161, 3) := by decide +kernel
theorem dX11_reason_45 : decode cX11_reason 45 = .ok (.ifCond .eq 5, 3) := by decide +kernel
theorem dX11_reason_48 : decode cX11_reason 48 = .ok (.iconst 0, 1) := by decide +kernel
theorem dX11_reason_49 : decode cX11_reason 49 = .ok (.ireturn, 1) := by decide +kernel
theorem dX11_reason_50 : decode cX11_reason 50 = .ok (.iload_n 1, 1) := by decide +kernel
theorem dX11_reason_51 : decode cX11_reason 51 = .ok (.ifCond .ne 21, 3) := by decide +kernel
theorem dX11_reason_54 : decode cX11_reason 54 = .ok (.iload_n 2, 1) := by decide +kernel
theorem dX11_reason_55 : decode cX11_reason 55 = .ok (.ifCond .eq 10, 3) := by decide +kernel
theorem dX11_reason_58 : decode cX11_reason 58 = .ok (.aload_n 0, 1) := by decide +kernel
theorem dX11_reason_59 : decode cX11_reason 59 = .ok (.getfield 338, 3) := by decide +kernel
theorem dX11_reason_62 : decode cX11_reason 62 = .ok (.goto 25, 3) := by decide +kernel
theorem dX11_reason_65 : decode cX11_reason 65 = .ok (.aload_n 0, 1) := by decide +kernel
theorem dX11_reason_66 : decode cX11_reason 66 = .ok (.getfield 335, 3) := by decide +kernel
theorem dX11_reason_69 : decode cX11_reason 69 = .ok (.goto 18, 3) := by decide +kernel
theorem dX11_reason_72 : decode cX11_reason 72 = .ok (.iload_n 2, 1) := by decide +kernel
theorem dX11_reason_73 : decode cX11_reason 73 = .ok (.ifCond .eq 10, 3) := by decide +kernel
theorem dX11_reason_76 : decode cX11_reason 76 = .ok (.aload_n 0, 1) := by decide +kernel
theorem dX11_reason_77 : decode cX11_reason 77 = .ok (.getfield 437, 3) := by decide +kernel
theorem dX11_reason_80 : decode cX11_reason 80 = .ok (.goto 7, 3) := by decide +kernel
theorem dX11_reason_83 : decode cX11_reason 83 = .ok (.aload_n 0, 1) := by decide +kernel
theorem dX11_reason_84 : decode cX11_reason 84 = .ok (.getfield 341, 3) := by decide +kernel
theorem dX11_reason_87 : decode cX11_reason 87 = .ok (.ireturn, 1) := by decide +kernel
theorem dX11_writes_0 : decode cX11_writes 0 = .ok (.aload_n 0, 1) := by decide +kernel
theorem dX11_writes_1 : decode cX11_writes 1 = .ok (.getfield 155, 3) := by decide +kernel
theorem dX11_writes_4 : decode cX11_writes 4 = .ok (.aload_n 0, 1) := by decide +kernel
theorem dX11_writes_5 : decode cX11_writes 5 = .ok (.getfield 440, 3) := by decide +kernel
theorem dX11_writes_8 : decode cX11_writes 8 = .ok (.iload_n 1, 1) := by decide +kernel
theorem dX11_writes_9 : decode cX11_writes 9 = .ok (.iastore, 1) := by decide +kernel
theorem dX11_writes_10 : decode cX11_writes 10 = .ok (.aload_n 0, 1) := by decide +kernel
theorem dX11_writes_11 : decode cX11_writes 11 = .ok (.dup, 1) := by decide +kernel
theorem dX11_writes_12 : decode cX11_writes 12 = .ok (.getfield 440, 3) := by decide +kernel
theorem dX11_writes_15 : decode cX11_writes 15 = .ok (.iconst 1, 1) := by decide +kernel
theorem dX11_writes_16 : decode cX11_writes 16 = .ok (.iadd, 1) := by decide +kernel
theorem dX11_writes_17 : decode cX11_writes 17 = .ok (.putfield 440, 3) := by decide +kernel
theorem dX11_writes_20 : decode cX11_writes 20 = .ok (.return_, 1) := by decide +kernel
theorem dX11_later_0 : decode cX11_later 0 = .ok (.aload_n 0, 1) := by decide +kernel
theorem dX11_later_1 : decode cX11_later 1 = .ok (.getfield 158, 3) := by decide +kernel
theorem dX11_later_4 : decode cX11_later 4 = .ok (.aload_n 0, 1) := by decide +kernel
theorem dX11_later_5 : decode cX11_later 5 = .ok (.getfield 443, 3) := by decide +kernel
theorem dX11_later_8 : decode cX11_later 8 = .ok (.iload_n 1, 1) := by decide +kernel
theorem dX11_later_9 : decode cX11_later 9 = .ok (.iastore, 1) := by decide +kernel
theorem dX11_later_10 : decode cX11_later 10 = .ok (.aload_n 0, 1) := by decide +kernel
theorem dX11_later_11 : decode cX11_later 11 = .ok (.dup, 1) := by decide +kernel
theorem dX11_later_12 : decode cX11_later 12 = .ok (.getfield 443, 3) := by decide +kernel
theorem dX11_later_15 : decode cX11_later 15 = .ok (.iconst 1, 1) := by decide +kernel
theorem dX11_later_16 : decode cX11_later 16 = .ok (.iadd, 1) := by decide +kernel
theorem dX11_later_17 : decode cX11_later 17 = .ok (.putfield 443, 3) := by decide +kernel
theorem dX11_later_20 : decode cX11_later 20 = .ok (.return_, 1) := by decide +kernel
theorem dX11_writesType_0 : decode cX11_writesType 0 = .ok (.aload_n 0, 1) := by decide +kernel
theorem dX11_writesType_1 : decode cX11_writesType 1 = .ok (.iconst 0, 1) := by decide +kernel
theorem dX11_writesType_2 : decode cX11_writesType 2 = .ok (.putfield 440, 3) := by decide +kernel
theorem dX11_writesType_5 : decode cX11_writesType 5 = .ok (.aload_n 0, 1) := by decide +kernel
theorem dX11_writesType_6 : decode cX11_writesType 6 = .ok (.iconst 0, 1) := by decide +kernel
theorem dX11_writesType_7 : decode cX11_writesType 7 = .ok (.putfield 443, 3) := by decide +kernel
theorem dX11_writesType_10 : decode cX11_writesType 10 = .ok (.aload_n 0, 1) := by decide +kernel
theorem dX11_writesType_11 : decode cX11_writesType 11 = .ok (.iconst (-1), 1) := by decide +kernel
theorem dX11_writesType_12 : decode cX11_writesType 12 = .ok (.invokevirtual 446, 3) := by decide +kernel
theorem dX11_writesType_15 : decode cX11_writesType 15 = .ok (.iconst 0, 1) := by decide +kernel
theorem dX11_writesType_16 : decode cX11_writesType 16 = .ok (.istore_n 1, 1) := by decide +kernel
theorem dX11_writesType_17 : decode cX11_writesType 17 = .ok (.aload_n 0, 1) := by decide +kernel
theorem dX11_writesType_18 : decode cX11_writesType 18 = .ok (.getfield 443, 3) := by decide +kernel
theorem dX11_writesType_21 : decode cX11_writesType 21 = .ok (.ifCond .le 142, 3) := by decide +kernel
theorem dX11_writesType_24 : decode cX11_writesType 24 = .ok (.aload_n 0, 1) := by decide +kernel
theorem dX11_writesType_25 : decode cX11_writesType 25 = .ok (.dup, 1) := by decide +kernel
theorem dX11_writesType_26 : decode cX11_writesType 26 = .ok (.getfield 443, 3) := by decide +kernel
theorem dX11_writesType_29 : decode cX11_writesType 29 = .ok (.iconst 1, 1) := by decide +kernel
theorem dX11_writesType_30 : decode cX11_writesType 30 = .ok (.isub, 1) := by decide +kernel
theorem dX11_writesType_31 : decode cX11_writesType 31 = .ok (.putfield 443, 3) := by decide +kernel
theorem dX11_writesType_34 : decode cX11_writesType 34 = .ok (.aload_n 0, 1) := by decide +kernel
theorem dX11_writesType_35 : decode cX11_writesType 35 = .ok (.getfield 158, 3) := by decide +kernel
theorem dX11_writesType_38 : decode cX11_writesType 38 = .ok (.aload_n 0, 1) := by decide +kernel
theorem dX11_writesType_39 : decode cX11_writesType 39 = .ok (.getfield 443, 3) := by decide +kernel
theorem dX11_writesType_42 : decode cX11_writesType 42 = .ok (.iaload, 1) := by decide +kernel
theorem dX11_writesType_43 : decode cX11_writesType 43 = .ok (.istore_n 2, 1) := by decide +kernel
theorem dX11_writesType_44 : decode cX11_writesType 44 = .ok (.iload_n 2, 1) := by decide +kernel
theorem dX11_writesType_45 : decode cX11_writesType 45 = .ok (.ifCond .le 11, 3) := by decide +kernel
theorem dX11_writesType_48 : decode cX11_writesType 48 = .ok (.aload_n 0, 1) := by decide +kernel
theorem dX11_writesType_49 : decode cX11_writesType 49 = .ok (.iload_n 2, 1) := by decide +kernel
theorem dX11_writesType_50 : decode cX11_writesType 50 = .ok (.invokevirtual 449, 3) := by decide +kernel
theorem dX11_writesType_53 : decode cX11_writesType 53 = .ok (.goto (-36), 3) := by decide +kernel
theorem dX11_writesType_56 : decode cX11_writesType 56 = .ok (.aload_n 0, 1) := by decide +kernel
theorem dX11_writesType_57 : decode cX11_writesType 57 = .ok (.getfield 119, 3) := by decide +kernel
theorem dX11_writesType_60 : decode cX11_writesType 60 = .ok (.iload_n 1, 1) := by decide +kernel
theorem dX11_writesType_61 : decode cX11_writesType 61 = .ok (.iaload, 1) := by decide +kernel
theorem dX11_writesType_62 : decode cX11_writesType 62 = .ok (.istore_n 3, 1) := by decide +kernel
theorem dX11_writesType_63 : decode cX11_writesType 63 = .ok (.iinc 1 1, 3) := by decide +kernel
theorem dX11_writesType_66 : decode cX11_writesType 66 = .ok (.iload_n 3, 1) := by decide +kernel
theorem dX11_writesType_67 : decode cX11_writesType 67 = .ok (.iconst 2, 1) := by decide +kernel
theorem dX11_writesType_68 : decode cX11_writesType 68 = .ok (.if_icmp .ne 41, 3) := by decide +kernel
theorem dX11_writesType_71 : decode cX11_writesType 71 = .ok (.iload_n 2, 1) := by decide +kernel
theorem dX11_writesType_72 : decode cX11_writesType 72 = .ok (.bipush (-2), 2) := by decide +kernel
theorem dX11_writesType_74 : decode cX11_writesType 74 = .ok (.if_icmp .ne 15, 3) := by decide +kernel
theorem dX11_writesType_77 : decode cX11_writesType 77 = .ok (.aload_n 0, 1) := by decide +kernel
theorem dX11_writesType_78 : decode cX11_writesType 78 = .ok (.bipush 40, 2) := by decide +kernel
theorem dX11_writesType_80 : decode cX11_writesType 80 = .ok (.invokevirtual 449, 3) := by decide +kernel
theorem dX11_writesType_83 : decode cX11_writesType 83 = .ok (.aload_n 0, 1) := by decide +kernel
theorem dX11_writesType_84 : decode cX11_writesType 84 = .ok (.bipush 41, 2) := by decide +kernel
theorem dX11_writesType_86 : decode cX11_writesType 86 = .ok (.invokevirtual 446, 3) := by decide +kernel
theorem dX11_writesType_89 : decode cX11_writesType 89 = .ok (.aload_n 0, 1) := by decide +kernel
theorem dX11_writesType_90 : decode cX11_writesType 90 = .ok (.iconst (-1), 1) := by decide +kernel
theorem dX11_writesType_91 : decode cX11_writesType 91 = .ok (.invokevirtual 446, 3) := by decide +kernel
theorem dX11_writesType_94 : decode cX11_writesType 94 = .ok (.aload_n 0, 1) := by decide +kernel
theorem dX11_writesType_95 : decode cX11_writesType 95 = .ok (.bipush 62, 2) := by decide +kernel
theorem dX11_writesType_97 : decode cX11_writesType 97 = .ok (.invokevirtual 446, 3) := by decide +kernel
theorem dX11_writesType_100 : decode cX11_writesType 100 = .ok (.aload_n 0, 1) := by decide +kernel
theorem dX11_writesType_101 : decode cX11_writesType 101 = .ok (.bipush (-2), 2) := by decide +kernel
theorem dX11_writesType_103 : decode cX11_writesType 103 = .ok (.invokevirtual 446, 3) := by decide +kernel
theorem dX11_writesType_106 : decode cX11_writesType 106 = .ok (.goto (-89), 3) := by decide +kernel
theorem dX11_writesType_109 : decode cX11_writesType 109 = .ok (.aload_n 0, 1) := by decide +kernel
theorem dX11_writesType_110 : decode cX11_writesType 110 = .ok (.iload_n 3, 1) := by decide +kernel
theorem dX11_writesType_111 : decode cX11_writesType 111 = .ok (.ifCond .ne 8, 3) := by decide +kernel
theorem dX11_writesType_114 : decode cX11_writesType 114 = .ok (.bipush 78, 2) := by decide +kernel
theorem dX11_writesType_116 : decode cX11_writesType 116 = .ok (.goto 22, 3) := by decide +kernel
theorem dX11_writesType_119 : decode cX11_writesType 119 = .ok (.iload_n 3, 1) := by decide +kernel
theorem dX11_writesType_120 : decode cX11_writesType 120 = .ok (.iconst 1, 1) := by decide +kernel
theorem dX11_writesType_121 : decode cX11_writesType 121 = .ok (.if_icmp .ne 8, 3) := by decide +kernel
theorem dX11_writesType_124 : decode cX11_writesType 124 = .ok (.bipush 66, 2) := by decide +kernel
theorem dX11_writesType_126 : decode cX11_writesType 126 = .ok (.goto 12, 3) := by decide +kernel
theorem dX11_writesType_129 : decode cX11_writesType 129 = .ok (.bipush 97, 2) := by decide +kernel
theorem dX11_writesType_131 : decode cX11_writesType 131 = .ok (.iload_n 3, 1) := by decide +kernel
theorem dX11_writesType_132 : decode cX11_writesType 132 = .ok (.iconst 3, 1) := by decide +kernel
theorem dX11_writesType_133 : decode cX11_writesType 133 = .ok (.isub, 1) := by decide +kernel
theorem dX11_writesType_134 : decode cX11_writesType 134 = .ok (.bipush 26, 2) := by decide +kernel
theorem dX11_writesType_136 : decode cX11_writesType 136 = .ok (.irem, 1) := by decide +kernel
theorem dX11_writesType_137 : decode cX11_writesType 137 = .ok (.iadd, 1) := by decide +kernel
theorem dX11_writesType_138 : decode cX11_writesType 138 = .ok (.invokevirtual 449, 3) := by decide +kernel
theorem dX11_writesType_141 : decode cX11_writesType 141 = .ok (.iload_n 3, 1) := by decide +kernel
theorem dX11_writesType_142 : decode cX11_writesType 142 = .ok (.bipush 29, 2) := by decide +kernel
theorem dX11_writesType_144 : decode cX11_writesType 144 = .ok (.if_icmp .lt 16, 3) := by decide +kernel
theorem dX11_writesType_147 : decode cX11_writesType 147 = .ok (.aload_n 0, 1) := by decide +kernel
theorem dX11_writesType_148 : decode cX11_writesType 148 = .ok (.bipush 48, 2) := by decide +kernel
theorem dX11_writesType_150 : decode cX11_writesType 150 = .ok (.iload_n 3, 1) := by decide +kernel
theorem dX11_writesType_151 : decode cX11_writesType 151 = .ok (.iconst 3, 1) := by decide +kernel
theorem dX11_writesType_152 : decode cX11_writesType 152 = .ok (.isub, 1) := by decide +kernel
theorem dX11_writesType_153 : decode cX11_writesType 153 = .ok (.bipush 26, 2) := by decide +kernel
theorem dX11_writesType_155 : decode cX11_writesType 155 = .ok (.idiv, 1) := by decide +kernel
theorem dX11_writesType_156 : decode cX11_writesType 156 = .ok (.iadd, 1) := by decide +kernel
theorem dX11_writesType_157 : decode cX11_writesType 157 = .ok (.invokevirtual 449, 3) := by decide +kernel
theorem dX11_writesType_160 : decode cX11_writesType 160 = .ok (.goto (-143), 3) := by decide +kernel
theorem dX11_writesType_163 : decode cX11_writesType 163 = .ok (.aload_n 0, 1) := by decide +kernel
theorem dX11_writesType_164 : decode cX11_writesType 164 = .ok (.getfield 440, 3) := by decide +kernel
theorem dX11_writesType_167 : decode cX11_writesType 167 = .ok (.ireturn, 1) := by decide +kernel
theorem dX11_tell_0 : decode cX11_tell 0 = .ok (.aload_n 0, 1) := by decide +kernel
theorem dX11_tell_1 : decode cX11_tell 1 = .ok (.aload_n 0, 1) := by decide +kernel
theorem dX11_tell_2 : decode cX11_tell 2 = .ok (.iload_n 1, 1) := by decide +kernel
theorem dX11_tell_3 : decode cX11_tell 3 = .ok (.invokevirtual 361, 3) := by decide +kernel
theorem dX11_tell_6 : decode cX11_tell 6 = .ok (.ifCond .ne 7, 3) := by decide +kernel
theorem dX11_tell_9 : decode cX11_tell 9 = .ok (.iconst 1, 1) := by decide +kernel
theorem dX11_tell_10 : decode cX11_tell 10 = .ok (.goto 16, 3) := by decide +kernel
theorem dX11_tell_13 : decode cX11_tell 13 = .ok (.aload_n 0, 1) := by decide +kernel
theorem dX11_tell_14 : decode cX11_tell 14 = .ok (.iload_n 1, 1) := by decide +kernel
theorem dX11_tell_15 : decode cX11_tell 15 = .ok (.invokevirtual 367, 3) := by decide +kernel
theorem dX11_tell_18 : decode cX11_tell 18 = .ok (.ifCond .eq 7, 3) := by decide +kernel
theorem dX11_tell_21 : decode cX11_tell 21 = .ok (.iconst 0, 1) := by decide +kernel
theorem dX11_tell_22 : decode cX11_tell 22 = .ok (.goto 4, 3) := by decide +kernel
theorem dX11_tell_25 : decode cX11_tell 25 = .ok (.iconst 2, 1) := by decide +kernel
theorem dX11_tell_26 : decode cX11_tell 26 = .ok (.putfield 161, 3) := by decide +kernel
theorem dX11_tell_29 : decode cX11_tell 29 = .ok (.aload_n 0, 1) := by decide +kernel
theorem dX11_tell_30 : decode cX11_tell 30 = .ok (.getfield 161, 3) := by decide +kernel
theorem dX11_tell_33 : decode cX11_tell 33 = .ok (.ifCond .eq 5, 3) := by decide +kernel
theorem dX11_tell_36 : decode cX11_tell 36 = .ok (.iconst 0, 1) := by decide +kernel
theorem dX11_tell_37 : decode cX11_tell 37 = .ok (.ireturn, 1) := by decide +kernel
theorem dX11_tell_38 : decode cX11_tell 38 = .ok (.aload_n 0, 1) := by decide +kernel
theorem dX11_tell_39 : decode cX11_tell 39 = .ok (.aload_n 0, 1) := by decide +kernel
theorem dX11_tell_40 : decode cX11_tell 40 = .ok (.getfield 137, 3) := by decide +kernel
theorem dX11_tell_43 : decode cX11_tell 43 = .ok (.iconst 0, 1) := by decide +kernel
theorem dX11_tell_44 : decode cX11_tell 44 = .ok (.iaload, 1) := by decide +kernel
theorem dX11_tell_45 : decode cX11_tell 45 = .ok (.invokevirtual 370, 3) := by decide +kernel
theorem dX11_tell_48 : decode cX11_tell 48 = .ok (.aload_n 0, 1) := by decide +kernel
theorem dX11_tell_49 : decode cX11_tell 49 = .ok (.invokevirtual 452, 3) := by decide +kernel
theorem dX11_tell_52 : decode cX11_tell 52 = .ok (.ireturn, 1) := by decide +kernel
theorem dX11_tellNode_0 : decode cX11_tellNode 0 = .ok (.aload_n 0, 1) := by decide +kernel
theorem dX11_tellNode_1 : decode cX11_tellNode 1 = .ok (.aload_n 0, 1) := by decide +kernel
theorem dX11_tellNode_2 : decode cX11_tellNode 2 = .ok (.iload_n 1, 1) := by decide +kernel
theorem dX11_tellNode_3 : decode cX11_tellNode 3 = .ok (.iload_n 2, 1) := by decide +kernel
theorem dX11_tellNode_4 : decode cX11_tellNode 4 = .ok (.invokevirtual 379, 3) := by decide +kernel
theorem dX11_tellNode_7 : decode cX11_tellNode 7 = .ok (.ifCond .ne 7, 3) := by decide +kernel
theorem dX11_tellNode_10 : decode cX11_tellNode 10 = .ok (.iconst 1, 1) := by decide +kernel
theorem dX11_tellNode_11 : decode cX11_tellNode 11 = .ok (.goto 16, 3) := by decide +kernel
theorem dX11_tellNode_14 : decode cX11_tellNode 14 = .ok (.aload_n 0, 1) := by decide +kernel
theorem dX11_tellNode_15 : decode cX11_tellNode 15 = .ok (.iload_n 1, 1) := by decide +kernel
theorem dX11_tellNode_16 : decode cX11_tellNode 16 = .ok (.invokevirtual 367, 3) := by decide +kernel
theorem dX11_tellNode_19 : decode cX11_tellNode 19 = .ok (.ifCond .eq 7, 3) := by decide +kernel
theorem dX11_tellNode_22 : decode cX11_tellNode 22 = .ok (.iconst 0, 1) := by decide +kernel
theorem dX11_tellNode_23 : decode cX11_tellNode 23 = .ok (.goto 4, 3) := by decide +kernel
theorem dX11_tellNode_26 : decode cX11_tellNode 26 = .ok (.iconst 2, 1) := by decide +kernel
theorem dX11_tellNode_27 : decode cX11_tellNode 27 = .ok (.putfield 161, 3) := by decide +kernel
theorem dX11_tellNode_30 : decode cX11_tellNode 30 = .ok (.aload_n 0, 1) := by decide +kernel
theorem dX11_tellNode_31 : decode cX11_tellNode 31 = .ok (.getfield 161, 3) := by decide +kernel
theorem dX11_tellNode_34 : decode cX11_tellNode 34 = .ok (.ifCond .eq 5, 3) := by decide +kernel
theorem dX11_tellNode_37 : decode cX11_tellNode 37 = .ok (.iconst 0, 1) := by decide +kernel
theorem dX11_tellNode_38 : decode cX11_tellNode 38 = .ok (.ireturn, 1) := by decide +kernel
theorem dX11_tellNode_39 : decode cX11_tellNode 39 = .ok (.aload_n 0, 1) := by decide +kernel
theorem dX11_tellNode_40 : decode cX11_tellNode 40 = .ok (.aload_n 0, 1) := by decide +kernel
theorem dX11_tellNode_41 : decode cX11_tellNode 41 = .ok (.getfield 137, 3) := by decide +kernel
theorem dX11_tellNode_44 : decode cX11_tellNode 44 = .ok (.iload_n 2, 1) := by decide +kernel
theorem dX11_tellNode_45 : decode cX11_tellNode 45 = .ok (.iaload, 1) := by decide +kernel
theorem dX11_tellNode_46 : decode cX11_tellNode 46 = .ok (.invokevirtual 370, 3) := by decide +kernel
theorem dX11_tellNode_49 : decode cX11_tellNode 49 = .ok (.aload_n 0, 1) := by decide +kernel
theorem dX11_tellNode_50 : decode cX11_tellNode 50 = .ok (.invokevirtual 452, 3) := by decide +kernel
theorem dX11_tellNode_53 : decode cX11_tellNode 53 = .ok (.ireturn, 1) := by decide +kernel
theorem dX11_tellKept_0 : decode cX11_tellKept 0 = .ok (.aload_n 0, 1) := by decide +kernel
theorem dX11_tellKept_1 : decode cX11_tellKept 1 = .ok (.iload_n 1, 1) := by decide +kernel
theorem dX11_tellKept_2 : decode cX11_tellKept 2 = .ok (.iconst 0, 1) := by decide +kernel
theorem dX11_tellKept_3 : decode cX11_tellKept 3 = .ok (.bipush 7, 2) := by decide +kernel
theorem dX11_tellKept_5 : decode cX11_tellKept 5 = .ok (.invokestatic 164, 3) := by decide +kernel
theorem dX11_tellKept_8 : decode cX11_tellKept 8 = .ok (.ifCond .ne 7, 3) := by decide +kernel
theorem dX11_tellKept_11 : decode cX11_tellKept 11 = .ok (.iconst 1, 1) := by decide +kernel
theorem dX11_tellKept_12 : decode cX11_tellKept 12 = .ok (.goto 20, 3) := by decide +kernel
theorem dX11_tellKept_15 : decode cX11_tellKept 15 = .ok (.aload_n 0, 1) := by decide +kernel
theorem dX11_tellKept_16 : decode cX11_tellKept 16 = .ok (.getfield 13, 3) := by decide +kernel
theorem dX11_tellKept_19 : decode cX11_tellKept 19 = .ok (.iload_n 1, 1) := by decide +kernel
theorem dX11_tellKept_20 : decode cX11_tellKept 20 = .ok (.invokestatic 278, 3) := by decide +kernel
theorem dX11_tellKept_23 : decode cX11_tellKept 23 = .ok (.iaload, 1) := by decide +kernel
theorem dX11_tellKept_24 : decode cX11_tellKept 24 = .ok (.ifCond .ne 7, 3) := by decide +kernel
theorem dX11_tellKept_27 : decode cX11_tellKept 27 = .ok (.iconst 2, 1) := by decide +kernel
theorem dX11_tellKept_28 : decode cX11_tellKept 28 = .ok (.goto 4, 3) := by decide +kernel
theorem dX11_tellKept_31 : decode cX11_tellKept 31 = .ok (.iconst 0, 1) := by decide +kernel
theorem dX11_tellKept_32 : decode cX11_tellKept 32 = .ok (.putfield 161, 3) := by decide +kernel
theorem dX11_tellKept_35 : decode cX11_tellKept 35 = .ok (.aload_n 0, 1) := by decide +kernel
theorem dX11_tellKept_36 : decode cX11_tellKept 36 = .ok (.getfield 161, 3) := by decide +kernel
theorem dX11_tellKept_39 : decode cX11_tellKept 39 = .ok (.ifCond .eq 5, 3) := by decide +kernel
theorem dX11_tellKept_42 : decode cX11_tellKept 42 = .ok (.iconst 0, 1) := by decide +kernel
theorem dX11_tellKept_43 : decode cX11_tellKept 43 = .ok (.ireturn, 1) := by decide +kernel
theorem dX11_tellKept_44 : decode cX11_tellKept 44 = .ok (.iconst 0, 1) := by decide +kernel
theorem dX11_tellKept_45 : decode cX11_tellKept 45 = .ok (.istore_n 2, 1) := by decide +kernel
theorem dX11_tellKept_46 : decode cX11_tellKept 46 = .ok (.iload_n 2, 1) := by decide +kernel
theorem dX11_tellKept_47 : decode cX11_tellKept 47 = .ok (.bipush 24, 2) := by decide +kernel
theorem dX11_tellKept_49 : decode cX11_tellKept 49 = .ok (.if_icmp .ge 28, 3) := by decide +kernel
theorem dX11_tellKept_52 : decode cX11_tellKept 52 = .ok (.aload_n 0, 1) := by decide +kernel
theorem dX11_tellKept_53 : decode cX11_tellKept 53 = .ok (.getfield 119, 3) := by decide +kernel
theorem dX11_tellKept_56 : decode cX11_tellKept 56 = .ok (.iload_n 2, 1) := by decide +kernel
theorem dX11_tellKept_57 : decode cX11_tellKept 57 = .ok (.aload_n 0, 1) := by decide +kernel
theorem dX11_tellKept_58 : decode cX11_tellKept 58 = .ok (.getfield 13, 3) := by decide +kernel
theorem dX11_tellKept_61 : decode cX11_tellKept 61 = .ok (.iload_n 1, 1) := by decide +kernel
theorem dX11_tellKept_62 : decode cX11_tellKept 62 = .ok (.invokestatic 278, 3) := by decide +kernel
theorem dX11_tellKept_65 : decode cX11_tellKept 65 = .ok (.iconst 1, 1) := by decide +kernel
theorem dX11_tellKept_66 : decode cX11_tellKept 66 = .ok (.iadd, 1) := by decide +kernel
theorem dX11_tellKept_67 : decode cX11_tellKept 67 = .ok (.iload_n 2, 1) := by decide +kernel
theorem dX11_tellKept_68 : decode cX11_tellKept 68 = .ok (.iadd, 1) := by decide +kernel
theorem dX11_tellKept_69 : decode cX11_tellKept 69 = .ok (.iaload, 1) := by decide +kernel
theorem dX11_tellKept_70 : decode cX11_tellKept 70 = .ok (.iastore, 1) := by decide +kernel
theorem dX11_tellKept_71 : decode cX11_tellKept 71 = .ok (.iinc 2 1, 3) := by decide +kernel
theorem dX11_tellKept_74 : decode cX11_tellKept 74 = .ok (.goto (-28), 3) := by decide +kernel
theorem dX11_tellKept_77 : decode cX11_tellKept 77 = .ok (.aload_n 0, 1) := by decide +kernel
theorem dX11_tellKept_78 : decode cX11_tellKept 78 = .ok (.invokevirtual 452, 3) := by decide +kernel
theorem dX11_tellKept_81 : decode cX11_tellKept 81 = .ok (.ireturn, 1) := by decide +kernel
theorem dX11_writesNode_0 : decode cX11_writesNode 0 = .ok (.iload_n 1, 1) := by decide +kernel
theorem dX11_writesNode_1 : decode cX11_writesNode 1 = .ok (.ifCond .le 17, 3) := by decide +kernel
theorem dX11_writesNode_4 : decode cX11_writesNode 4 = .ok (.aload_n 0, 1) := by decide +kernel
theorem dX11_writesNode_5 : decode cX11_writesNode 5 = .ok (.getfield 56, 3) := by decide +kernel
theorem dX11_writesNode_8 : decode cX11_writesNode 8 = .ok (.iload_n 1, 1) := by decide +kernel
theorem dX11_writesNode_9 : decode cX11_writesNode 9 = .ok (.iaload, 1) := by decide +kernel
theorem dX11_writesNode_10 : decode cX11_writesNode 10 = .ok (.iconst 4, 1) := by decide +kernel
theorem dX11_writesNode_11 : decode cX11_writesNode 11 = .ok (.if_icmp .lt 7, 3) := by decide +kernel
theorem dX11_writesNode_14 : decode cX11_writesNode 14 = .ok (.iconst 1, 1) := by decide +kernel
theorem dX11_writesNode_15 : decode cX11_writesNode 15 = .ok (.goto 4, 3) := by decide +kernel
theorem dX11_writesNode_18 : decode cX11_writesNode 18 = .ok (.iconst 0, 1) := by decide +kernel
theorem dX11_writesNode_19 : decode cX11_writesNode 19 = .ok (.istore_n 2, 1) := by decide +kernel
theorem dX11_writesNode_20 : decode cX11_writesNode 20 = .ok (.iload_n 2, 1) := by decide +kernel
theorem dX11_writesNode_21 : decode cX11_writesNode 21 = .ok (.ifCond .eq 15, 3) := by decide +kernel
theorem dX11_writesNode_24 : decode cX11_writesNode 24 = .ok (.aload_n 0, 1) := by decide +kernel
theorem dX11_writesNode_25 : decode cX11_writesNode 25 = .ok (.bipush 40, 2) := by decide +kernel
theorem dX11_writesNode_27 : decode cX11_writesNode 27 = .ok (.invokevirtual 449, 3) := by decide +kernel
theorem dX11_writesNode_30 : decode cX11_writesNode 30 = .ok (.aload_n 0, 1) := by decide +kernel
theorem dX11_writesNode_31 : decode cX11_writesNode 31 = .ok (.bipush 41, 2) := by decide +kernel
theorem dX11_writesNode_33 : decode cX11_writesNode 33 = .ok (.invokevirtual 446, 3) := by decide +kernel
theorem dX11_writesNode_36 : decode cX11_writesNode 36 = .ok (.aload_n 0, 1) := by decide +kernel
theorem dX11_writesNode_37 : decode cX11_writesNode 37 = .ok (.getfield 56, 3) := by decide +kernel
theorem dX11_writesNode_40 : decode cX11_writesNode 40 = .ok (.iload_n 1, 1) := by decide +kernel
theorem dX11_writesNode_41 : decode cX11_writesNode 41 = .ok (.iaload, 1) := by decide +kernel
theorem dX11_writesNode_42 : decode cX11_writesNode 42 = .ok (.iconst 4, 1) := by decide +kernel
theorem dX11_writesNode_43 : decode cX11_writesNode 43 = .ok (.if_icmp .ge 14, 3) := by decide +kernel
theorem dX11_writesNode_46 : decode cX11_writesNode 46 = .ok (.aload_n 0, 1) := by decide +kernel
theorem dX11_writesNode_47 : decode cX11_writesNode 47 = .ok (.aload_n 0, 1) := by decide +kernel
theorem dX11_writesNode_48 : decode cX11_writesNode 48 = .ok (.getfield 59, 3) := by decide +kernel
theorem dX11_writesNode_51 : decode cX11_writesNode 51 = .ok (.iload_n 1, 1) := by decide +kernel
theorem dX11_writesNode_52 : decode cX11_writesNode 52 = .ok (.iaload, 1) := by decide +kernel
theorem dX11_writesNode_53 : decode cX11_writesNode 53 = .ok (.invokevirtual 449, 3) := by decide +kernel
theorem dX11_writesNode_56 : decode cX11_writesNode 56 = .ok (.return_, 1) := by decide +kernel
theorem dX11_writesNode_57 : decode cX11_writesNode 57 = .ok (.aload_n 0, 1) := by decide +kernel
theorem dX11_writesNode_58 : decode cX11_writesNode 58 = .ok (.getfield 56, 3) := by decide +kernel
theorem dX11_writesNode_61 : decode cX11_writesNode 61 = .ok (.iload_n 1, 1) := by decide +kernel
theorem dX11_writesNode_62 : decode cX11_writesNode 62 = .ok (.iaload, 1) := by decide +kernel
theorem dX11_writesNode_63 : decode cX11_writesNode 63 = .ok (.bipush 6, 2) := by decide +kernel
theorem dX11_writesNode_65 : decode cX11_writesNode 65 = .ok (.if_icmp .ne 32, 3) := by decide +kernel
theorem dX11_writesNode_68 : decode cX11_writesNode 68 = .ok (.aload_n 0, 1) := by decide +kernel
theorem dX11_writesNode_69 : decode cX11_writesNode 69 = .ok (.sipush 200, 3) := by decide +kernel
theorem dX11_writesNode_72 : decode cX11_writesNode 72 = .ok (.aload_n 0, 1) := by decide +kernel
theorem dX11_writesNode_73 : decode cX11_writesNode 73 = .ok (.getfield 65, 3) := by decide +kernel
theorem dX11_writesNode_76 : decode cX11_writesNode 76 = .ok (.iload_n 1, 1) := by decide +kernel
theorem dX11_writesNode_77 : decode cX11_writesNode 77 = .ok (.iaload, 1) := by decide +kernel
theorem dX11_writesNode_78 : decode cX11_writesNode 78 = .ok (.iadd, 1) := by decide +kernel
theorem dX11_writesNode_79 : decode cX11_writesNode 79 = .ok (.invokevirtual 446, 3) := by decide +kernel
theorem dX11_writesNode_82 : decode cX11_writesNode 82 = .ok (.aload_n 0, 1) := by decide +kernel
theorem dX11_writesNode_83 : decode cX11_writesNode 83 = .ok (.sipush 200, 3) := by decide +kernel
theorem dX11_writesNode_86 : decode cX11_writesNode 86 = .ok (.aload_n 0, 1) := by decide +kernel
theorem dX11_writesNode_87 : decode cX11_writesNode 87 = .ok (.getfield 62, 3) := by decide +kernel
theorem dX11_writesNode_90 : decode cX11_writesNode 90 = .ok (.iload_n 1, 1) := by decide +kernel
theorem dX11_writesNode_91 : decode cX11_writesNode 91 = .ok (.iaload, 1) := by decide +kernel
theorem dX11_writesNode_92 : decode cX11_writesNode 92 = .ok (.iadd, 1) := by decide +kernel
theorem dX11_writesNode_93 : decode cX11_writesNode 93 = .ok (.invokevirtual 446, 3) := by decide +kernel
theorem dX11_writesNode_96 : decode cX11_writesNode 96 = .ok (.return_, 1) := by decide +kernel
theorem dX11_writesNode_97 : decode cX11_writesNode 97 = .ok (.aload_n 0, 1) := by decide +kernel
theorem dX11_writesNode_98 : decode cX11_writesNode 98 = .ok (.aload_n 0, 1) := by decide +kernel
theorem dX11_writesNode_99 : decode cX11_writesNode 99 = .ok (.getfield 56, 3) := by decide +kernel
theorem dX11_writesNode_102 : decode cX11_writesNode 102 = .ok (.iload_n 1, 1) := by decide +kernel
theorem dX11_writesNode_103 : decode cX11_writesNode 103 = .ok (.iaload, 1) := by decide +kernel
theorem dX11_writesNode_104 : decode cX11_writesNode 104 = .ok (.iconst 4, 1) := by decide +kernel
theorem dX11_writesNode_105 : decode cX11_writesNode 105 = .ok (.if_icmp .ne 8, 3) := by decide +kernel
theorem dX11_writesNode_108 : decode cX11_writesNode 108 = .ok (.bipush 94, 2) := by decide +kernel
theorem dX11_writesNode_110 : decode cX11_writesNode 110 = .ok (.goto 5, 3) := by decide +kernel
theorem dX11_writesNode_113 : decode cX11_writesNode 113 = .ok (.bipush 33, 2) := by decide +kernel
theorem dX11_writesNode_115 : decode cX11_writesNode 115 = .ok (.invokevirtual 449, 3) := by decide +kernel
theorem dX11_writesNode_118 : decode cX11_writesNode 118 = .ok (.aload_n 0, 1) := by decide +kernel
theorem dX11_writesNode_119 : decode cX11_writesNode 119 = .ok (.aload_n 0, 1) := by decide +kernel
theorem dX11_writesNode_120 : decode cX11_writesNode 120 = .ok (.getfield 59, 3) := by decide +kernel
theorem dX11_writesNode_123 : decode cX11_writesNode 123 = .ok (.iload_n 1, 1) := by decide +kernel
theorem dX11_writesNode_124 : decode cX11_writesNode 124 = .ok (.iaload, 1) := by decide +kernel
theorem dX11_writesNode_125 : decode cX11_writesNode 125 = .ok (.invokevirtual 449, 3) := by decide +kernel
theorem dX11_writesNode_128 : decode cX11_writesNode 128 = .ok (.aload_n 0, 1) := by decide +kernel
theorem dX11_writesNode_129 : decode cX11_writesNode 129 = .ok (.aload_n 0, 1) := by decide +kernel
theorem dX11_writesNode_130 : decode cX11_writesNode 130 = .ok (.getfield 56, 3) := by decide +kernel
theorem dX11_writesNode_133 : decode cX11_writesNode 133 = .ok (.iload_n 1, 1) := by decide +kernel
theorem dX11_writesNode_134 : decode cX11_writesNode 134 = .ok (.iaload, 1) := by decide +kernel
theorem dX11_writesNode_135 : decode cX11_writesNode 135 = .ok (.iconst 4, 1) := by decide +kernel
theorem dX11_writesNode_136 : decode cX11_writesNode 136 = .ok (.if_icmp .ne 8, 3) := by decide +kernel
theorem dX11_writesNode_139 : decode cX11_writesNode 139 = .ok (.bipush 46, 2) := by decide +kernel
theorem dX11_writesNode_141 : decode cX11_writesNode 141 = .ok (.goto 5, 3) := by decide +kernel
theorem dX11_writesNode_144 : decode cX11_writesNode 144 = .ok (.bipush 61, 2) := by decide +kernel
theorem dX11_writesNode_146 : decode cX11_writesNode 146 = .ok (.invokevirtual 449, 3) := by decide +kernel
theorem dX11_writesNode_149 : decode cX11_writesNode 149 = .ok (.aload_n 0, 1) := by decide +kernel
theorem dX11_writesNode_150 : decode cX11_writesNode 150 = .ok (.getfield 56, 3) := by decide +kernel
theorem dX11_writesNode_153 : decode cX11_writesNode 153 = .ok (.iload_n 1, 1) := by decide +kernel
theorem dX11_writesNode_154 : decode cX11_writesNode 154 = .ok (.iaload, 1) := by decide +kernel
theorem dX11_writesNode_155 : decode cX11_writesNode 155 = .ok (.iconst 5, 1) := by decide +kernel
theorem dX11_writesNode_156 : decode cX11_writesNode 156 = .ok (.if_icmp .ne 23, 3) := by decide +kernel
theorem dX11_writesNode_159 : decode cX11_writesNode 159 = .ok (.aload_n 0, 1) := by decide +kernel
theorem dX11_writesNode_160 : decode cX11_writesNode 160 = .ok (.sipush 200, 3) := by decide +kernel
theorem dX11_writesNode_163 : decode cX11_writesNode 163 = .ok (.aload_n 0, 1) := by decide +kernel
theorem dX11_writesNode_164 : decode cX11_writesNode 164 = .ok (.getfield 65, 3) := by decide +kernel
theorem dX11_writesNode_167 : decode cX11_writesNode 167 = .ok (.iload_n 1, 1) := by decide +kernel
theorem dX11_writesNode_168 : decode cX11_writesNode 168 = .ok (.iaload, 1) := by decide +kernel
theorem dX11_writesNode_169 : decode cX11_writesNode 169 = .ok (.iadd, 1) := by decide +kernel
theorem dX11_writesNode_170 : decode cX11_writesNode 170 = .ok (.invokevirtual 446, 3) := by decide +kernel
theorem dX11_writesNode_173 : decode cX11_writesNode 173 = .ok (.aload_n 0, 1) := by decide +kernel
theorem dX11_writesNode_174 : decode cX11_writesNode 174 = .ok (.bipush 59, 2) := by decide +kernel
theorem dX11_writesNode_176 : decode cX11_writesNode 176 = .ok (.invokevirtual 446, 3) := by decide +kernel
theorem dX11_writesNode_179 : decode cX11_writesNode 179 = .ok (.aload_n 0, 1) := by decide +kernel
theorem dX11_writesNode_180 : decode cX11_writesNode 180 = .ok (.sipush 200, 3) := by decide +kernel
theorem dX11_writesNode_183 : decode cX11_writesNode 183 = .ok (.aload_n 0, 1) := by decide +kernel
theorem dX11_writesNode_184 : decode cX11_writesNode 184 = .ok (.getfield 62, 3) := by decide +kernel
theorem dX11_writesNode_187 : decode cX11_writesNode 187 = .ok (.iload_n 1, 1) := by decide +kernel
theorem dX11_writesNode_188 : decode cX11_writesNode 188 = .ok (.iaload, 1) := by decide +kernel
theorem dX11_writesNode_189 : decode cX11_writesNode 189 = .ok (.iadd, 1) := by decide +kernel
theorem dX11_writesNode_190 : decode cX11_writesNode 190 = .ok (.invokevirtual 446, 3) := by decide +kernel
theorem dX11_writesNode_193 : decode cX11_writesNode 193 = .ok (.return_, 1) := by decide +kernel
theorem dX11_tellTerm_0 : decode cX11_tellTerm 0 = .ok (.aload_n 0, 1) := by decide +kernel
theorem dX11_tellTerm_1 : decode cX11_tellTerm 1 = .ok (.aload_n 0, 1) := by decide +kernel
theorem dX11_tellTerm_2 : decode cX11_tellTerm 2 = .ok (.iload_n 1, 1) := by decide +kernel
theorem dX11_tellTerm_3 : decode cX11_tellTerm 3 = .ok (.invokevirtual 361, 3) := by decide +kernel
theorem dX11_tellTerm_6 : decode cX11_tellTerm 6 = .ok (.ifCond .eq 7, 3) := by decide +kernel
theorem dX11_tellTerm_9 : decode cX11_tellTerm 9 = .ok (.iconst 0, 1) := by decide +kernel
theorem dX11_tellTerm_10 : decode cX11_tellTerm 10 = .ok (.goto 4, 3) := by decide +kernel
theorem dX11_tellTerm_13 : decode cX11_tellTerm 13 = .ok (.iconst 1, 1) := by decide +kernel
theorem dX11_tellTerm_14 : decode cX11_tellTerm 14 = .ok (.putfield 161, 3) := by decide +kernel
theorem dX11_tellTerm_17 : decode cX11_tellTerm 17 = .ok (.aload_n 0, 1) := by decide +kernel
theorem dX11_tellTerm_18 : decode cX11_tellTerm 18 = .ok (.getfield 161, 3) := by decide +kernel
theorem dX11_tellTerm_21 : decode cX11_tellTerm 21 = .ok (.ifCond .eq 5, 3) := by decide +kernel
theorem dX11_tellTerm_24 : decode cX11_tellTerm 24 = .ok (.iconst 0, 1) := by decide +kernel
theorem dX11_tellTerm_25 : decode cX11_tellTerm 25 = .ok (.ireturn, 1) := by decide +kernel
theorem dX11_tellTerm_26 : decode cX11_tellTerm 26 = .ok (.aload_n 0, 1) := by decide +kernel
theorem dX11_tellTerm_27 : decode cX11_tellTerm 27 = .ok (.iload_n 1, 1) := by decide +kernel
theorem dX11_tellTerm_28 : decode cX11_tellTerm 28 = .ok (.invokevirtual 315, 3) := by decide +kernel
theorem dX11_tellTerm_31 : decode cX11_tellTerm 31 = .ok (.aload_n 0, 1) := by decide +kernel
theorem dX11_tellTerm_32 : decode cX11_tellTerm 32 = .ok (.iconst 0, 1) := by decide +kernel
theorem dX11_tellTerm_33 : decode cX11_tellTerm 33 = .ok (.putfield 440, 3) := by decide +kernel
theorem dX11_tellTerm_36 : decode cX11_tellTerm 36 = .ok (.aload_n 0, 1) := by decide +kernel
theorem dX11_tellTerm_37 : decode cX11_tellTerm 37 = .ok (.iconst 0, 1) := by decide +kernel
theorem dX11_tellTerm_38 : decode cX11_tellTerm 38 = .ok (.putfield 443, 3) := by decide +kernel
theorem dX11_tellTerm_41 : decode cX11_tellTerm 41 = .ok (.aload_n 0, 1) := by decide +kernel
theorem dX11_tellTerm_42 : decode cX11_tellTerm 42 = .ok (.sipush 200, 3) := by decide +kernel
theorem dX11_tellTerm_45 : decode cX11_tellTerm 45 = .ok (.invokevirtual 446, 3) := by decide +kernel
theorem dX11_tellTerm_48 : decode cX11_tellTerm 48 = .ok (.aload_n 0, 1) := by decide +kernel
theorem dX11_tellTerm_49 : decode cX11_tellTerm 49 = .ok (.getfield 443, 3) := by decide +kernel
theorem dX11_tellTerm_52 : decode cX11_tellTerm 52 = .ok (.ifCond .le 64, 3) := by decide +kernel
theorem dX11_tellTerm_55 : decode cX11_tellTerm 55 = .ok (.aload_n 0, 1) := by decide +kernel
theorem dX11_tellTerm_56 : decode cX11_tellTerm 56 = .ok (.dup, 1) := by decide +kernel
theorem dX11_tellTerm_57 : decode cX11_tellTerm 57 = .ok (.getfield 443, 3) := by decide +kernel
theorem dX11_tellTerm_60 : decode cX11_tellTerm 60 = .ok (.iconst 1, 1) := by decide +kernel
theorem dX11_tellTerm_61 : decode cX11_tellTerm 61 = .ok (.isub, 1) := by decide +kernel
theorem dX11_tellTerm_62 : decode cX11_tellTerm 62 = .ok (.putfield 443, 3) := by decide +kernel
theorem dX11_tellTerm_65 : decode cX11_tellTerm 65 = .ok (.aload_n 0, 1) := by decide +kernel
theorem dX11_tellTerm_66 : decode cX11_tellTerm 66 = .ok (.getfield 158, 3) := by decide +kernel
theorem dX11_tellTerm_69 : decode cX11_tellTerm 69 = .ok (.aload_n 0, 1) := by decide +kernel
theorem dX11_tellTerm_70 : decode cX11_tellTerm 70 = .ok (.getfield 443, 3) := by decide +kernel
theorem dX11_tellTerm_73 : decode cX11_tellTerm 73 = .ok (.iaload, 1) := by decide +kernel
theorem dX11_tellTerm_74 : decode cX11_tellTerm 74 = .ok (.sipush 200, 3) := by decide +kernel
theorem dX11_tellTerm_77 : decode cX11_tellTerm 77 = .ok (.if_icmp .lt 23, 3) := by decide +kernel
theorem dX11_tellTerm_80 : decode cX11_tellTerm 80 = .ok (.aload_n 0, 1) := by decide +kernel
theorem dX11_tellTerm_81 : decode cX11_tellTerm 81 = .ok (.aload_n 0, 1) := by decide +kernel
theorem dX11_tellTerm_82 : decode cX11_tellTerm 82 = .ok (.getfield 158, 3) := by decide +kernel
theorem dX11_tellTerm_85 : decode cX11_tellTerm 85 = .ok (.aload_n 0, 1) := by decide +kernel
theorem dX11_tellTerm_86 : decode cX11_tellTerm 86 = .ok (.getfield 443, 3) := by decide +kernel
theorem dX11_tellTerm_89 : decode cX11_tellTerm 89 = .ok (.iaload, 1) := by decide +kernel
theorem dX11_tellTerm_90 : decode cX11_tellTerm 90 = .ok (.sipush 200, 3) := by decide +kernel
theorem dX11_tellTerm_93 : decode cX11_tellTerm 93 = .ok (.isub, 1) := by decide +kernel
theorem dX11_tellTerm_94 : decode cX11_tellTerm 94 = .ok (.invokevirtual 455, 3) := by decide +kernel
theorem dX11_tellTerm_97 : decode cX11_tellTerm 97 = .ok (.goto (-49), 3) := by decide +kernel
theorem dX11_tellTerm_100 : decode cX11_tellTerm 100 = .ok (.aload_n 0, 1) := by decide +kernel
theorem dX11_tellTerm_101 : decode cX11_tellTerm 101 = .ok (.aload_n 0, 1) := by decide +kernel
theorem dX11_tellTerm_102 : decode cX11_tellTerm 102 = .ok (.getfield 158, 3) := by decide +kernel
theorem dX11_tellTerm_105 : decode cX11_tellTerm 105 = .ok (.aload_n 0, 1) := by decide +kernel
theorem dX11_tellTerm_106 : decode cX11_tellTerm 106 = .ok (.getfield 443, 3) := by decide +kernel
theorem dX11_tellTerm_109 : decode cX11_tellTerm 109 = .ok (.iaload, 1) := by decide +kernel
theorem dX11_tellTerm_110 : decode cX11_tellTerm 110 = .ok (.invokevirtual 449, 3) := by decide +kernel
theorem dX11_tellTerm_113 : decode cX11_tellTerm 113 = .ok (.goto (-65), 3) := by decide +kernel
theorem dX11_tellTerm_116 : decode cX11_tellTerm 116 = .ok (.aload_n 0, 1) := by decide +kernel
theorem dX11_tellTerm_117 : decode cX11_tellTerm 117 = .ok (.getfield 440, 3) := by decide +kernel
theorem dX11_tellTerm_120 : decode cX11_tellTerm 120 = .ok (.ireturn, 1) := by decide +kernel
theorem dX11_character_0 : decode cX11_character 0 = .ok (.aload_n 0, 1) := by decide +kernel
theorem dX11_character_1 : decode cX11_character 1 = .ok (.iload_n 1, 1) := by decide +kernel
theorem dX11_character_2 : decode cX11_character 2 = .ok (.iconst 0, 1) := by decide +kernel
theorem dX11_character_3 : decode cX11_character 3 = .ok (.aload_n 0, 1) := by decide +kernel
theorem dX11_character_4 : decode cX11_character 4 = .ok (.getfield 440, 3) := by decide +kernel
theorem dX11_character_7 : decode cX11_character 7 = .ok (.iconst 1, 1) := by decide +kernel
theorem dX11_character_8 : decode cX11_character 8 = .ok (.isub, 1) := by decide +kernel
theorem dX11_character_9 : decode cX11_character 9 = .ok (.invokestatic 164, 3) := by decide +kernel
theorem dX11_character_12 : decode cX11_character 12 = .ok (.ifCond .eq 7, 3) := by decide +kernel
theorem dX11_character_15 : decode cX11_character 15 = .ok (.iconst 0, 1) := by decide +kernel
theorem dX11_character_16 : decode cX11_character 16 = .ok (.goto 4, 3) := by decide +kernel
theorem dX11_character_19 : decode cX11_character 19 = .ok (.iconst 1, 1) := by decide +kernel
theorem dX11_character_20 : decode cX11_character 20 = .ok (.putfield 161, 3) := by decide +kernel
theorem dX11_character_23 : decode cX11_character 23 = .ok (.aload_n 0, 1) := by decide +kernel
theorem dX11_character_24 : decode cX11_character 24 = .ok (.getfield 161, 3) := by decide +kernel
theorem dX11_character_27 : decode cX11_character 27 = .ok (.ifCond .ne 13, 3) := by decide +kernel
theorem dX11_character_30 : decode cX11_character 30 = .ok (.aload_n 0, 1) := by decide +kernel
theorem dX11_character_31 : decode cX11_character 31 = .ok (.getfield 155, 3) := by decide +kernel
theorem dX11_character_34 : decode cX11_character 34 = .ok (.iload_n 1, 1) := by decide +kernel
theorem dX11_character_35 : decode cX11_character 35 = .ok (.iaload, 1) := by decide +kernel
theorem dX11_character_36 : decode cX11_character 36 = .ok (.i2c, 1) := by decide +kernel
theorem dX11_character_37 : decode cX11_character 37 = .ok (.goto 4, 3) := by decide +kernel
theorem dX11_character_40 : decode cX11_character 40 = .ok (.iconst 0, 1) := by decide +kernel
theorem dX11_character_41 : decode cX11_character 41 = .ok (.ireturn, 1) := by decide +kernel
theorem dX11_ofLessons_0 : decode cX11_ofLessons 0 = .ok (.iconst 0, 1) := by decide +kernel
theorem dX11_ofLessons_1 : decode cX11_ofLessons 1 = .ok (.istore_n 2, 1) := by decide +kernel
theorem dX11_ofLessons_2 : decode cX11_ofLessons 2 = .ok (.iconst 0, 1) := by decide +kernel
theorem dX11_ofLessons_3 : decode cX11_ofLessons 3 = .ok (.istore_n 3, 1) := by decide +kernel
theorem dX11_ofLessons_4 : decode cX11_ofLessons 4 = .ok (.iload_n 3, 1) := by decide +kernel
theorem dX11_ofLessons_5 : decode cX11_ofLessons 5 = .ok (.aload_n 0, 1) := by decide +kernel
theorem dX11_ofLessons_6 : decode cX11_ofLessons 6 = .ok (.getfield 13, 3) := by decide +kernel
theorem dX11_ofLessons_9 : decode cX11_ofLessons 9 = .ok (.iconst 0, 1) := by decide +kernel
theorem dX11_ofLessons_10 : decode cX11_ofLessons 10 = .ok (.iaload, 1) := by decide +kernel
theorem dX11_ofLessons_11 : decode cX11_ofLessons 11 = .ok (.if_icmp .ge 95, 3) := by decide +kernel
theorem dX11_ofLessons_14 : decode cX11_ofLessons 14 = .ok (.aload_n 0, 1) := by decide +kernel
theorem dX11_ofLessons_15 : decode cX11_ofLessons 15 = .ok (.iload_n 3, 1) := by decide +kernel
theorem dX11_ofLessons_16 : decode cX11_ofLessons 16 = .ok (.invokevirtual 367, 3) := by decide +kernel
theorem dX11_ofLessons_19 : decode cX11_ofLessons 19 = .ok (.istore 4, 2) := by decide +kernel
theorem dX11_ofLessons_21 : decode cX11_ofLessons 21 = .ok (.iload 4, 2) := by decide +kernel
theorem dX11_ofLessons_23 : decode cX11_ofLessons 23 = .ok (.ifCond .eq 8, 3) := by decide +kernel
theorem dX11_ofLessons_26 : decode cX11_ofLessons 26 = .ok (.iload_n 1, 1) := by decide +kernel
theorem dX11_ofLessons_27 : decode cX11_ofLessons 27 = .ok (.iconst 2, 1) := by decide +kernel
theorem dX11_ofLessons_28 : decode cX11_ofLessons 28 = .ok (.if_icmp .le 27, 3) := by decide +kernel
theorem dX11_ofLessons_31 : decode cX11_ofLessons 31 = .ok (.iload_n 2, 1) := by decide +kernel
theorem dX11_ofLessons_32 : decode cX11_ofLessons 32 = .ok (.iload 4, 2) := by decide +kernel
theorem dX11_ofLessons_34 : decode cX11_ofLessons 34 = .ok (.ifCond .ne 15, 3) := by decide +kernel
theorem dX11_ofLessons_37 : decode cX11_ofLessons 37 = .ok (.iload_n 1, 1) := by decide +kernel
theorem dX11_ofLessons_38 : decode cX11_ofLessons 38 = .ok (.aload_n 0, 1) := by decide +kernel
theorem dX11_ofLessons_39 : decode cX11_ofLessons 39 = .ok (.getfield 242, 3) := by decide +kernel
theorem dX11_ofLessons_42 : decode cX11_ofLessons 42 = .ok (.if_icmp .ne 7, 3) := by decide +kernel
theorem dX11_ofLessons_45 : decode cX11_ofLessons 45 = .ok (.iconst 1, 1) := by decide +kernel
theorem dX11_ofLessons_46 : decode cX11_ofLessons 46 = .ok (.goto 4, 3) := by decide +kernel
theorem dX11_ofLessons_49 : decode cX11_ofLessons 49 = .ok (.iconst 0, 1) := by decide +kernel
theorem dX11_ofLessons_50 : decode cX11_ofLessons 50 = .ok (.iadd, 1) := by decide +kernel
theorem dX11_ofLessons_51 : decode cX11_ofLessons 51 = .ok (.istore_n 2, 1) := by decide +kernel
theorem dX11_ofLessons_52 : decode cX11_ofLessons 52 = .ok (.goto 48, 3) := by decide +kernel
theorem dX11_ofLessons_55 : decode cX11_ofLessons 55 = .ok (.aload_n 0, 1) := by decide +kernel
theorem dX11_ofLessons_56 : decode cX11_ofLessons 56 = .ok (.aload_n 0, 1) := by decide +kernel
theorem dX11_ofLessons_57 : decode cX11_ofLessons 57 = .ok (.getfield 137, 3) := by decide +kernel
theorem dX11_ofLessons_60 : decode cX11_ofLessons 60 = .ok (.iconst 0, 1) := by decide +kernel
theorem dX11_ofLessons_61 : decode cX11_ofLessons 61 = .ok (.iaload, 1) := by decide +kernel
theorem dX11_ofLessons_62 : decode cX11_ofLessons 62 = .ok (.invokevirtual 370, 3) := by decide +kernel
theorem dX11_ofLessons_65 : decode cX11_ofLessons 65 = .ok (.iload_n 2, 1) := by decide +kernel
theorem dX11_ofLessons_66 : decode cX11_ofLessons 66 = .ok (.iload_n 1, 1) := by decide +kernel
theorem dX11_ofLessons_67 : decode cX11_ofLessons 67 = .ok (.ifCond .ne 7, 3) := by decide +kernel
theorem dX11_ofLessons_70 : decode cX11_ofLessons 70 = .ok (.iconst 1, 1) := by decide +kernel
theorem dX11_ofLessons_71 : decode cX11_ofLessons 71 = .ok (.goto 27, 3) := by decide +kernel
theorem dX11_ofLessons_74 : decode cX11_ofLessons 74 = .ok (.iload_n 1, 1) := by decide +kernel
theorem dX11_ofLessons_75 : decode cX11_ofLessons 75 = .ok (.iconst 1, 1) := by decide +kernel
theorem dX11_ofLessons_76 : decode cX11_ofLessons 76 = .ok (.if_icmp .ne 10, 3) := by decide +kernel
theorem dX11_ofLessons_79 : decode cX11_ofLessons 79 = .ok (.aload_n 0, 1) := by decide +kernel
theorem dX11_ofLessons_80 : decode cX11_ofLessons 80 = .ok (.getfield 262, 3) := by decide +kernel
theorem dX11_ofLessons_83 : decode cX11_ofLessons 83 = .ok (.goto 15, 3) := by decide +kernel
theorem dX11_ofLessons_86 : decode cX11_ofLessons 86 = .ok (.aload_n 0, 1) := by decide +kernel
theorem dX11_ofLessons_87 : decode cX11_ofLessons 87 = .ok (.getfield 265, 3) := by decide +kernel
theorem dX11_ofLessons_90 : decode cX11_ofLessons 90 = .ok (.ifCond .ne 7, 3) := by decide +kernel
theorem dX11_ofLessons_93 : decode cX11_ofLessons 93 = .ok (.iconst 1, 1) := by decide +kernel
theorem dX11_ofLessons_94 : decode cX11_ofLessons 94 = .ok (.goto 4, 3) := by decide +kernel
theorem dX11_ofLessons_97 : decode cX11_ofLessons 97 = .ok (.iconst 0, 1) := by decide +kernel
theorem dX11_ofLessons_98 : decode cX11_ofLessons 98 = .ok (.iadd, 1) := by decide +kernel
theorem dX11_ofLessons_99 : decode cX11_ofLessons 99 = .ok (.istore_n 2, 1) := by decide +kernel
theorem dX11_ofLessons_100 : decode cX11_ofLessons 100 = .ok (.iinc 3 1, 3) := by decide +kernel
theorem dX11_ofLessons_103 : decode cX11_ofLessons 103 = .ok (.goto (-99), 3) := by decide +kernel
theorem dX11_ofLessons_106 : decode cX11_ofLessons 106 = .ok (.iload_n 2, 1) := by decide +kernel
theorem dX11_ofLessons_107 : decode cX11_ofLessons 107 = .ok (.ireturn, 1) := by decide +kernel
theorem dX11_allNodes_0 : decode cX11_allNodes 0 = .ok (.iconst 0, 1) := by decide +kernel
theorem dX11_allNodes_1 : decode cX11_allNodes 1 = .ok (.istore_n 1, 1) := by decide +kernel
theorem dX11_allNodes_2 : decode cX11_allNodes 2 = .ok (.iconst 0, 1) := by decide +kernel
theorem dX11_allNodes_3 : decode cX11_allNodes 3 = .ok (.istore_n 2, 1) := by decide +kernel
theorem dX11_allNodes_4 : decode cX11_allNodes 4 = .ok (.iload_n 2, 1) := by decide +kernel
theorem dX11_allNodes_5 : decode cX11_allNodes 5 = .ok (.aload_n 0, 1) := by decide +kernel
theorem dX11_allNodes_6 : decode cX11_allNodes 6 = .ok (.getfield 13, 3) := by decide +kernel
theorem dX11_allNodes_9 : decode cX11_allNodes 9 = .ok (.iconst 0, 1) := by decide +kernel
theorem dX11_allNodes_10 : decode cX11_allNodes 10 = .ok (.iaload, 1) := by decide +kernel
theorem dX11_allNodes_11 : decode cX11_allNodes 11 = .ok (.if_icmp .ge 17, 3) := by decide +kernel
theorem dX11_allNodes_14 : decode cX11_allNodes 14 = .ok (.iload_n 1, 1) := by decide +kernel
theorem dX11_allNodes_15 : decode cX11_allNodes 15 = .ok (.aload_n 0, 1) := by decide +kernel
theorem dX11_allNodes_16 : decode cX11_allNodes 16 = .ok (.iload_n 2, 1) := by decide +kernel
theorem dX11_allNodes_17 : decode cX11_allNodes 17 = .ok (.invokevirtual 415, 3) := by decide +kernel
theorem dX11_allNodes_20 : decode cX11_allNodes 20 = .ok (.iadd, 1) := by decide +kernel
theorem dX11_allNodes_21 : decode cX11_allNodes 21 = .ok (.istore_n 1, 1) := by decide +kernel
theorem dX11_allNodes_22 : decode cX11_allNodes 22 = .ok (.iinc 2 1, 3) := by decide +kernel
theorem dX11_allNodes_25 : decode cX11_allNodes 25 = .ok (.goto (-21), 3) := by decide +kernel
theorem dX11_allNodes_28 : decode cX11_allNodes 28 = .ok (.iload_n 1, 1) := by decide +kernel
theorem dX11_allNodes_29 : decode cX11_allNodes 29 = .ok (.ireturn, 1) := by decide +kernel
theorem dX11_keptNow_0 : decode cX11_keptNow 0 = .ok (.iconst 0, 1) := by decide +kernel
theorem dX11_keptNow_1 : decode cX11_keptNow 1 = .ok (.istore_n 1, 1) := by decide +kernel
theorem dX11_keptNow_2 : decode cX11_keptNow 2 = .ok (.iconst 0, 1) := by decide +kernel
theorem dX11_keptNow_3 : decode cX11_keptNow 3 = .ok (.istore_n 2, 1) := by decide +kernel
theorem dX11_keptNow_4 : decode cX11_keptNow 4 = .ok (.iload_n 2, 1) := by decide +kernel
theorem dX11_keptNow_5 : decode cX11_keptNow 5 = .ok (.bipush 8, 2) := by decide +kernel
theorem dX11_keptNow_7 : decode cX11_keptNow 7 = .ok (.if_icmp .ge 29, 3) := by decide +kernel
theorem dX11_keptNow_10 : decode cX11_keptNow 10 = .ok (.iload_n 1, 1) := by decide +kernel
theorem dX11_keptNow_11 : decode cX11_keptNow 11 = .ok (.aload_n 0, 1) := by decide +kernel
theorem dX11_keptNow_12 : decode cX11_keptNow 12 = .ok (.getfield 13, 3) := by decide +kernel
theorem dX11_keptNow_15 : decode cX11_keptNow 15 = .ok (.iload_n 2, 1) := by decide +kernel
theorem dX11_keptNow_16 : decode cX11_keptNow 16 = .ok (.invokestatic 278, 3) := by decide +kernel
theorem dX11_keptNow_19 : decode cX11_keptNow 19 = .ok (.iaload, 1) := by decide +kernel
theorem dX11_keptNow_20 : decode cX11_keptNow 20 = .ok (.ifCond .le 7, 3) := by decide +kernel
theorem dX11_keptNow_23 : decode cX11_keptNow 23 = .ok (.iconst 1, 1) := by decide +kernel
theorem dX11_keptNow_24 : decode cX11_keptNow 24 = .ok (.goto 4, 3) := by decide +kernel
theorem dX11_keptNow_27 : decode cX11_keptNow 27 = .ok (.iconst 0, 1) := by decide +kernel
theorem dX11_keptNow_28 : decode cX11_keptNow 28 = .ok (.iadd, 1) := by decide +kernel
theorem dX11_keptNow_29 : decode cX11_keptNow 29 = .ok (.istore_n 1, 1) := by decide +kernel
theorem dX11_keptNow_30 : decode cX11_keptNow 30 = .ok (.iinc 2 1, 3) := by decide +kernel
theorem dX11_keptNow_33 : decode cX11_keptNow 33 = .ok (.goto (-29), 3) := by decide +kernel
theorem dX11_keptNow_36 : decode cX11_keptNow 36 = .ok (.iload_n 1, 1) := by decide +kernel
theorem dX11_keptNow_37 : decode cX11_keptNow 37 = .ok (.ireturn, 1) := by decide +kernel
theorem dX11_account_0 : decode cX11_account 0 = .ok (.aload_n 0, 1) := by decide +kernel
theorem dX11_account_1 : decode cX11_account 1 = .ok (.iconst 0, 1) := by decide +kernel
theorem dX11_account_2 : decode cX11_account 2 = .ok (.putfield 161, 3) := by decide +kernel
theorem dX11_account_5 : decode cX11_account 5 = .ok (.iload_n 1, 1) := by decide +kernel
theorem dX11_account_6 : decode cX11_account 6 = .ok (.tableswitch 132 0 12 #[66, 73, 79, 79, 79, 87, 92, 97, 97, 109, 115, 120, 125], 66) := by decide +kernel
theorem dX11_account_72 : decode cX11_account 72 = .ok (.aload_n 0, 1) := by decide +kernel
theorem dX11_account_73 : decode cX11_account 73 = .ok (.getfield 13, 3) := by decide +kernel
theorem dX11_account_76 : decode cX11_account 76 = .ok (.iconst 0, 1) := by decide +kernel
theorem dX11_account_77 : decode cX11_account 77 = .ok (.iaload, 1) := by decide +kernel
theorem dX11_account_78 : decode cX11_account 78 = .ok (.ireturn, 1) := by decide +kernel
theorem dX11_account_79 : decode cX11_account 79 = .ok (.aload_n 0, 1) := by decide +kernel
theorem dX11_account_80 : decode cX11_account 80 = .ok (.iconst 0, 1) := by decide +kernel
theorem dX11_account_81 : decode cX11_account 81 = .ok (.invokevirtual 458, 3) := by decide +kernel
theorem dX11_account_84 : decode cX11_account 84 = .ok (.ireturn, 1) := by decide +kernel
theorem dX11_account_85 : decode cX11_account 85 = .ok (.aload_n 0, 1) := by decide +kernel
theorem dX11_account_86 : decode cX11_account 86 = .ok (.iload_n 1, 1) := by decide +kernel
theorem dX11_account_87 : decode cX11_account 87 = .ok (.iconst 1, 1) := by decide +kernel
theorem dX11_account_88 : decode cX11_account 88 = .ok (.iadd, 1) := by decide +kernel
theorem dX11_account_89 : decode cX11_account 89 = .ok (.invokevirtual 458, 3) := by decide +kernel
theorem dX11_account_92 : decode cX11_account 92 = .ok (.ireturn, 1) := by decide +kernel
theorem dX11_account_93 : decode cX11_account 93 = .ok (.aload_n 0, 1) := by decide +kernel
theorem dX11_account_94 : decode cX11_account 94 = .ok (.invokevirtual 461, 3) := by decide +kernel
theorem dX11_account_97 : decode cX11_account 97 = .ok (.ireturn, 1) := by decide +kernel
theorem dX11_account_98 : decode cX11_account 98 = .ok (.aload_n 0, 1) := by decide +kernel
theorem dX11_account_99 : decode cX11_account 99 = .ok (.invokevirtual 464, 3) := by decide +kernel
theorem dX11_account_102 : decode cX11_account 102 = .ok (.ireturn, 1) := by decide +kernel
theorem dX11_account_103 : decode cX11_account 103 = .ok (.aload_n 0, 1) := by decide +kernel
theorem dX11_account_104 : decode cX11_account 104 = .ok (.getfield 13, 3) := by decide +kernel
theorem dX11_account_107 : decode cX11_account 107 = .ok (.iconst 1, 1) := by decide +kernel
theorem dX11_account_108 : decode cX11_account 108 = .ok (.iload_n 1, 1) := by decide +kernel
theorem dX11_account_109 : decode cX11_account 109 = .ok (.iadd, 1) := by decide +kernel
theorem dX11_account_110 : decode cX11_account 110 = .ok (.bipush 7, 2) := by decide +kernel
theorem dX11_account_112 : decode cX11_account 112 = .ok (.isub, 1) := by decide +kernel
theorem dX11_account_113 : decode cX11_account 113 = .ok (.iaload, 1) := by decide +kernel
theorem dX11_account_114 : decode cX11_account 114 = .ok (.ireturn, 1) := by decide +kernel
theorem dX11_account_115 : decode cX11_account 115 = .ok (.aload_n 0, 1) := by decide +kernel
theorem dX11_account_116 : decode cX11_account 116 = .ok (.iconst 2, 1) := by decide +kernel
theorem dX11_account_117 : decode cX11_account 117 = .ok (.invokevirtual 458, 3) := by decide +kernel
theorem dX11_account_120 : decode cX11_account 120 = .ok (.ireturn, 1) := by decide +kernel
theorem dX11_account_121 : decode cX11_account 121 = .ok (.aload_n 0, 1) := by decide +kernel
theorem dX11_account_122 : decode cX11_account 122 = .ok (.getfield 353, 3) := by decide +kernel
theorem dX11_account_125 : decode cX11_account 125 = .ok (.ireturn, 1) := by decide +kernel
theorem dX11_account_126 : decode cX11_account 126 = .ok (.aload_n 0, 1) := by decide +kernel
theorem dX11_account_127 : decode cX11_account 127 = .ok (.getfield 347, 3) := by decide +kernel
theorem dX11_account_130 : decode cX11_account 130 = .ok (.ireturn, 1) := by decide +kernel
theorem dX11_account_131 : decode cX11_account 131 = .ok (.aload_n 0, 1) := by decide +kernel
theorem dX11_account_132 : decode cX11_account 132 = .ok (.bipush 10, 2) := by decide +kernel
theorem dX11_account_134 : decode cX11_account 134 = .ok (.invokevirtual 458, 3) := by decide +kernel
theorem dX11_account_137 : decode cX11_account 137 = .ok (.ireturn, 1) := by decide +kernel
theorem dX11_account_138 : decode cX11_account 138 = .ok (.aload_n 0, 1) := by decide +kernel
theorem dX11_account_139 : decode cX11_account 139 = .ok (.iconst 1, 1) := by decide +kernel
theorem dX11_account_140 : decode cX11_account 140 = .ok (.invokevirtual 344, 3) := by decide +kernel
theorem dX11_account_143 : decode cX11_account 143 = .ok (.ireturn, 1) := by decide +kernel
theorem dX11_meanSize_0 : decode cX11_meanSize 0 = .ok (.aload_n 0, 1) := by decide +kernel
theorem dX11_meanSize_1 : decode cX11_meanSize 1 = .ok (.iconst 0, 1) := by decide +kernel
theorem dX11_meanSize_2 : decode cX11_meanSize 2 = .ok (.invokevirtual 458, 3) := by decide +kernel
theorem dX11_meanSize_5 : decode cX11_meanSize 5 = .ok (.istore_n 1, 1) := by decide +kernel
theorem dX11_meanSize_6 : decode cX11_meanSize 6 = .ok (.aload_n 0, 1) := by decide +kernel
theorem dX11_meanSize_7 : decode cX11_meanSize 7 = .ok (.iload_n 1, 1) := by decide +kernel
theorem dX11_meanSize_8 : decode cX11_meanSize 8 = .ok (.ifCond .ne 7, 3) := by decide +kernel
theorem dX11_meanSize_11 : decode cX11_meanSize 11 = .ok (.iconst 1, 1) := by decide +kernel
theorem dX11_meanSize_12 : decode cX11_meanSize 12 = .ok (.goto 4, 3) := by decide +kernel
theorem dX11_meanSize_15 : decode cX11_meanSize 15 = .ok (.iconst 0, 1) := by decide +kernel
theorem dX11_meanSize_16 : decode cX11_meanSize 16 = .ok (.putfield 161, 3) := by decide +kernel
theorem dX11_meanSize_19 : decode cX11_meanSize 19 = .ok (.aload_n 0, 1) := by decide +kernel
theorem dX11_meanSize_20 : decode cX11_meanSize 20 = .ok (.getfield 161, 3) := by decide +kernel
theorem dX11_meanSize_23 : decode cX11_meanSize 23 = .ok (.ifCond .ne 15, 3) := by decide +kernel
theorem dX11_meanSize_26 : decode cX11_meanSize 26 = .ok (.aload_n 0, 1) := by decide +kernel
theorem dX11_meanSize_27 : decode cX11_meanSize 27 = .ok (.iconst 1, 1) := by decide +kernel
theorem dX11_meanSize_28 : decode cX11_meanSize 28 = .ok (.invokevirtual 458, 3) := by decide +kernel
theorem dX11_meanSize_31 : decode cX11_meanSize 31 = .ok (.i2d, 1) := by decide +kernel
theorem dX11_meanSize_32 : decode cX11_meanSize 32 = .ok (.iload_n 1, 1) := by decide +kernel
theorem dX11_meanSize_33 : decode cX11_meanSize 33 = .ok (.i2d, 1) := by decide +kernel
theorem dX11_meanSize_34 : decode cX11_meanSize 34 = .ok (.ddiv, 1) := by decide +kernel
theorem dX11_meanSize_35 : decode cX11_meanSize 35 = .ok (.goto 4, 3) := by decide +kernel
theorem dX11_meanSize_38 : decode cX11_meanSize 38 = .ok (.dconst 0, 1) := by decide +kernel
theorem dX11_meanSize_39 : decode cX11_meanSize 39 = .ok (.dreturn, 1) := by decide +kernel
theorem dX11_typedShare_0 : decode cX11_typedShare 0 = .ok (.aload_n 0, 1) := by decide +kernel
theorem dX11_typedShare_1 : decode cX11_typedShare 1 = .ok (.aload_n 0, 1) := by decide +kernel
theorem dX11_typedShare_2 : decode cX11_typedShare 2 = .ok (.getfield 13, 3) := by decide +kernel
theorem dX11_typedShare_5 : decode cX11_typedShare 5 = .ok (.iconst 0, 1) := by decide +kernel
theorem dX11_typedShare_6 : decode cX11_typedShare 6 = .ok (.iaload, 1) := by decide +kernel
theorem dX11_typedShare_7 : decode cX11_typedShare 7 = .ok (.ifCond .ne 7, 3) := by decide +kernel
theorem dX11_typedShare_10 : decode cX11_typedShare 10 = .ok (.iconst 1, 1) := by decide +kernel
theorem dX11_typedShare_11 : decode cX11_typedShare 11 = .ok (.goto 4, 3) := by decide +kernel
theorem dX11_typedShare_14 : decode cX11_typedShare 14 = .ok (.iconst 0, 1) := by decide +kernel
theorem dX11_typedShare_15 : decode cX11_typedShare 15 = .ok (.putfield 161, 3) := by decide +kernel
theorem dX11_typedShare_18 : decode cX11_typedShare 18 = .ok (.aload_n 0, 1) := by decide +kernel
theorem dX11_typedShare_19 : decode cX11_typedShare 19 = .ok (.getfield 161, 3) := by decide +kernel
theorem dX11_typedShare_22 : decode cX11_typedShare 22 = .ok (.ifCond .ne 20, 3) := by decide +kernel
theorem dX11_typedShare_25 : decode cX11_typedShare 25 = .ok (.aload_n 0, 1) := by decide +kernel
theorem dX11_typedShare_26 : decode cX11_typedShare 26 = .ok (.iconst 0, 1) := by decide +kernel
theorem dX11_typedShare_27 : decode cX11_typedShare 27 = .ok (.invokevirtual 458, 3) := by decide +kernel
theorem dX11_typedShare_30 : decode cX11_typedShare 30 = .ok (.i2f, 1) := by decide +kernel
theorem dX11_typedShare_31 : decode cX11_typedShare 31 = .ok (.aload_n 0, 1) := by decide +kernel
theorem dX11_typedShare_32 : decode cX11_typedShare 32 = .ok (.getfield 13, 3) := by decide +kernel
theorem dX11_typedShare_35 : decode cX11_typedShare 35 = .ok (.iconst 0, 1) := by decide +kernel
theorem dX11_typedShare_36 : decode cX11_typedShare 36 = .ok (.iaload, 1) := by decide +kernel
theorem dX11_typedShare_37 : decode cX11_typedShare 37 = .ok (.i2f, 1) := by decide +kernel
theorem dX11_typedShare_38 : decode cX11_typedShare 38 = .ok (.fdiv, 1) := by decide +kernel
theorem dX11_typedShare_39 : decode cX11_typedShare 39 = .ok (.goto 4, 3) := by decide +kernel
theorem dX11_typedShare_42 : decode cX11_typedShare 42 = .ok (.fconst 0, 1) := by decide +kernel
theorem dX11_typedShare_43 : decode cX11_typedShare 43 = .ok (.freturn, 1) := by decide +kernel
theorem dX11_undo_0 : decode cX11_undo 0 = .ok (.aload_n 0, 1) := by decide +kernel
theorem dX11_undo_1 : decode cX11_undo 1 = .ok (.aload_n 0, 1) := by decide +kernel
theorem dX11_undo_2 : decode cX11_undo 2 = .ok (.getfield 347, 3) := by decide +kernel
theorem dX11_undo_5 : decode cX11_undo 5 = .ok (.ifCond .ne 7, 3) := by decide +kernel
theorem dX11_undo_8 : decode cX11_undo 8 = .ok (.iconst 1, 1) := by decide +kernel
theorem dX11_undo_9 : decode cX11_undo 9 = .ok (.goto 4, 3) := by decide +kernel
theorem dX11_undo_12 : decode cX11_undo 12 = .ok (.iconst 0, 1) := by decide +kernel
theorem dX11_undo_13 : decode cX11_undo 13 = .ok (.putfield 161, 3) := by decide +kernel
theorem dX11_undo_16 : decode cX11_undo 16 = .ok (.aload_n 0, 1) := by decide +kernel
theorem dX11_undo_17 : decode cX11_undo 17 = .ok (.getfield 161, 3) := by decide +kernel
theorem dX11_undo_20 : decode cX11_undo 20 = .ok (.ifCond .eq 5, 3) := by decide +kernel
theorem dX11_undo_23 : decode cX11_undo 23 = .ok (.iconst 0, 1) := by decide +kernel
theorem dX11_undo_24 : decode cX11_undo 24 = .ok (.ireturn, 1) := by decide +kernel
theorem dX11_undo_25 : decode cX11_undo 25 = .ok (.aload_n 0, 1) := by decide +kernel
theorem dX11_undo_26 : decode cX11_undo 26 = .ok (.dup, 1) := by decide +kernel
theorem dX11_undo_27 : decode cX11_undo 27 = .ok (.getfield 347, 3) := by decide +kernel
theorem dX11_undo_30 : decode cX11_undo 30 = .ok (.iconst 1, 1) := by decide +kernel
theorem dX11_undo_31 : decode cX11_undo 31 = .ok (.isub, 1) := by decide +kernel
theorem dX11_undo_32 : decode cX11_undo 32 = .ok (.putfield 347, 3) := by decide +kernel
theorem dX11_undo_35 : decode cX11_undo 35 = .ok (.iconst 0, 1) := by decide +kernel
theorem dX11_undo_36 : decode cX11_undo 36 = .ok (.istore_n 1, 1) := by decide +kernel
theorem dX11_undo_37 : decode cX11_undo 37 = .ok (.iload_n 1, 1) := by decide +kernel
theorem dX11_undo_38 : decode cX11_undo 38 = .ok (.sipush 569, 3) := by decide +kernel
theorem dX11_undo_41 : decode cX11_undo 41 = .ok (.if_icmp .ge 30, 3) := by decide +kernel
theorem dX11_undo_44 : decode cX11_undo 44 = .ok (.aload_n 0, 1) := by decide +kernel
theorem dX11_undo_45 : decode cX11_undo 45 = .ok (.getfield 13, 3) := by decide +kernel
theorem dX11_undo_48 : decode cX11_undo 48 = .ok (.iload_n 1, 1) := by decide +kernel
theorem dX11_undo_49 : decode cX11_undo 49 = .ok (.aload_n 0, 1) := by decide +kernel
theorem dX11_undo_50 : decode cX11_undo 50 = .ok (.getfield 23, 3) := by decide +kernel
theorem dX11_undo_53 : decode cX11_undo 53 = .ok (.aload_n 0, 1) := by decide +kernel
theorem dX11_undo_54 : decode cX11_undo 54 = .ok (.getfield 347, 3) := by decide +kernel
theorem dX11_undo_57 : decode cX11_undo 57 = .ok (.sipush 569, 3) := by decide +kernel
theorem dX11_undo_60 : decode cX11_undo 60 = .ok (.imul, 1) := by decide +kernel
theorem dX11_undo_61 : decode cX11_undo 61 = .ok (.iload_n 1, 1) := by decide +kernel
theorem dX11_undo_62 : decode cX11_undo 62 = .ok (.iadd, 1) := by decide +kernel
theorem dX11_undo_63 : decode cX11_undo 63 = .ok (.iaload, 1) := by decide +kernel
theorem dX11_undo_64 : decode cX11_undo 64 = .ok (.iastore, 1) := by decide +kernel
theorem dX11_undo_65 : decode cX11_undo 65 = .ok (.iinc 1 1, 3) := by decide +kernel
theorem dX11_undo_68 : decode cX11_undo 68 = .ok (.goto (-31), 3) := by decide +kernel
theorem dX11_undo_71 : decode cX11_undo 71 = .ok (.aload_n 0, 1) := by decide +kernel
theorem dX11_undo_72 : decode cX11_undo 72 = .ok (.getfield 347, 3) := by decide +kernel
theorem dX11_undo_75 : decode cX11_undo 75 = .ok (.ireturn, 1) := by decide +kernel
theorem dX11_save_0 : decode cX11_save 0 = .ok (.aload_n 0, 1) := by decide +kernel
theorem dX11_save_1 : decode cX11_save 1 = .ok (.iconst 0, 1) := by decide +kernel
theorem dX11_save_2 : decode cX11_save 2 = .ok (.putfield 161, 3) := by decide +kernel
theorem dX11_save_5 : decode cX11_save 5 = .ok (.aload_n 0, 1) := by decide +kernel
theorem dX11_save_6 : decode cX11_save 6 = .ok (.getfield 20, 3) := by decide +kernel
theorem dX11_save_9 : decode cX11_save 9 = .ok (.aload_n 0, 1) := by decide +kernel
theorem dX11_save_10 : decode cX11_save 10 = .ok (.getfield 13, 3) := by decide +kernel
theorem dX11_save_13 : decode cX11_save 13 = .ok (.invokestatic 331, 3) := by decide +kernel
theorem dX11_save_16 : decode cX11_save 16 = .ok (.aload_n 0, 1) := by decide +kernel
theorem dX11_save_17 : decode cX11_save 17 = .ok (.iconst 1, 1) := by decide +kernel
theorem dX11_save_18 : decode cX11_save 18 = .ok (.putfield 467, 3) := by decide +kernel
theorem dX11_save_21 : decode cX11_save 21 = .ok (.aload_n 0, 1) := by decide +kernel
theorem dX11_save_22 : decode cX11_save 22 = .ok (.getfield 13, 3) := by decide +kernel
theorem dX11_save_25 : decode cX11_save 25 = .ok (.iconst 0, 1) := by decide +kernel
theorem dX11_save_26 : decode cX11_save 26 = .ok (.iaload, 1) := by decide +kernel
theorem dX11_save_27 : decode cX11_save 27 = .ok (.ireturn, 1) := by decide +kernel
theorem dX11_restore_0 : decode cX11_restore 0 = .ok (.aload_n 0, 1) := by decide +kernel
theorem dX11_restore_1 : decode cX11_restore 1 = .ok (.aload_n 0, 1) := by decide +kernel
theorem dX11_restore_2 : decode cX11_restore 2 = .ok (.getfield 467, 3) := by decide +kernel
theorem dX11_restore_5 : decode cX11_restore 5 = .ok (.ifCond .eq 7, 3) := by decide +kernel
theorem dX11_restore_8 : decode cX11_restore 8 = .ok (.iconst 0, 1) := by decide +kernel
theorem dX11_restore_9 : decode cX11_restore 9 = .ok (.goto 4, 3) := by decide +kernel
theorem dX11_restore_12 : decode cX11_restore 12 = .ok (.iconst 1, 1) := by decide +kernel
theorem dX11_restore_13 : decode cX11_restore 13 = .ok (.putfield 161, 3) := by decide +kernel
theorem dX11_restore_16 : decode cX11_restore 16 = .ok (.aload_n 0, 1) := by decide +kernel
theorem dX11_restore_17 : decode cX11_restore 17 = .ok (.getfield 161, 3) := by decide +kernel
theorem dX11_restore_20 : decode cX11_restore 20 = .ok (.ifCond .eq 5, 3) := by decide +kernel
theorem dX11_restore_23 : decode cX11_restore 23 = .ok (.iconst 0, 1) := by decide +kernel
theorem dX11_restore_24 : decode cX11_restore 24 = .ok (.ireturn, 1) := by decide +kernel
theorem dX11_restore_25 : decode cX11_restore 25 = .ok (.aload_n 0, 1) := by decide +kernel
theorem dX11_restore_26 : decode cX11_restore 26 = .ok (.getfield 13, 3) := by decide +kernel
theorem dX11_restore_29 : decode cX11_restore 29 = .ok (.aload_n 0, 1) := by decide +kernel
theorem dX11_restore_30 : decode cX11_restore 30 = .ok (.getfield 20, 3) := by decide +kernel
theorem dX11_restore_33 : decode cX11_restore 33 = .ok (.invokestatic 331, 3) := by decide +kernel
theorem dX11_restore_36 : decode cX11_restore 36 = .ok (.aload_n 0, 1) := by decide +kernel
theorem dX11_restore_37 : decode cX11_restore 37 = .ok (.iconst 0, 1) := by decide +kernel
theorem dX11_restore_38 : decode cX11_restore 38 = .ok (.putfield 347, 3) := by decide +kernel
theorem dX11_restore_41 : decode cX11_restore 41 = .ok (.aload_n 0, 1) := by decide +kernel
theorem dX11_restore_42 : decode cX11_restore 42 = .ok (.getfield 13, 3) := by decide +kernel
theorem dX11_restore_45 : decode cX11_restore 45 = .ok (.iconst 0, 1) := by decide +kernel
theorem dX11_restore_46 : decode cX11_restore 46 = .ok (.iaload, 1) := by decide +kernel
theorem dX11_restore_47 : decode cX11_restore 47 = .ok (.ireturn, 1) := by decide +kernel
theorem dJ5_init_d00df_0 : decode cJ5_init_d00df 0 = .ok (.aload_n 0, 1) := by decide +kernel
theorem dJ5_init_d00df_1 : decode cJ5_init_d00df 1 = .ok (.invokespecial 3, 3) := by decide +kernel
theorem dJ5_init_d00df_4 : decode cJ5_init_d00df 4 = .ok (.getstatic 18, 3) := by decide +kernel
theorem dJ5_init_d00df_7 : decode cJ5_init_d00df 7 = .ok (.ifCond .eq 18, 3) := by decide +kernel
theorem dJ5_init_d00df_10 : decode cJ5_init_d00df 10 = .ok (.aload_n 0, 1) := by decide +kernel
theorem dJ5_init_d00df_11 : decode cJ5_init_d00df 11 = .ok (.iload_n 1, 1) := by decide +kernel
theorem dJ5_init_d00df_12 : decode cJ5_init_d00df 12 = .ok (.newarray .byte, 2) := by decide +kernel
theorem dJ5_init_d00df_14 : decode cJ5_init_d00df 14 = .ok (.putfield 15, 3) := by decide +kernel
theorem dJ5_init_d00df_17 : decode cJ5_init_d00df 17 = .ok (.aload_n 0, 1) := by decide +kernel
theorem dJ5_init_d00df_18 : decode cJ5_init_d00df 18 = .ok (.iconst 0, 1) := by decide +kernel
theorem dJ5_init_d00df_19 : decode cJ5_init_d00df 19 = .ok (.putfield 22, 3) := by decide +kernel
theorem dJ5_init_d00df_22 : decode cJ5_init_d00df 22 = .ok (.goto 16, 3) := by decide +kernel
theorem dJ5_init_d00df_25 : decode cJ5_init_d00df 25 = .ok (.aload_n 0, 1) := by decide +kernel
theorem dJ5_init_d00df_26 : decode cJ5_init_d00df 26 = .ok (.iload_n 1, 1) := by decide +kernel
theorem dJ5_init_d00df_27 : decode cJ5_init_d00df 27 = .ok (.invokestatic 26, 3) := by decide +kernel
theorem dJ5_init_d00df_30 : decode cJ5_init_d00df 30 = .ok (.putfield 15, 3) := by decide +kernel
theorem dJ5_init_d00df_33 : decode cJ5_init_d00df 33 = .ok (.aload_n 0, 1) := by decide +kernel
theorem dJ5_init_d00df_34 : decode cJ5_init_d00df 34 = .ok (.iconst 1, 1) := by decide +kernel
theorem dJ5_init_d00df_35 : decode cJ5_init_d00df 35 = .ok (.putfield 22, 3) := by decide +kernel
theorem dJ5_init_d00df_38 : decode cJ5_init_d00df 38 = .ok (.return_, 1) := by decide +kernel
theorem dJ5_length_8abf5_0 : decode cJ5_length_8abf5 0 = .ok (.aload_n 0, 1) := by decide +kernel
theorem dJ5_length_8abf5_1 : decode cJ5_length_8abf5 1 = .ok (.getfield 79, 3) := by decide +kernel
theorem dJ5_length_8abf5_4 : decode cJ5_length_8abf5 4 = .ok (.ireturn, 1) := by decide +kernel
theorem dJ5_ensureCapacityInternal_d00df_0 : decode cJ5_ensureCapacityInternal_d00df 0 = .ok (.aload_n 0, 1) := by decide +kernel
theorem dJ5_ensureCapacityInternal_d00df_1 : decode cJ5_ensureCapacityInternal_d00df 1 = .ok (.getfield 15, 3) := by decide +kernel
theorem dJ5_ensureCapacityInternal_d00df_4 : decode cJ5_ensureCapacityInternal_d00df 4 = .ok (.arraylength, 1) := by decide +kernel
theorem dJ5_ensureCapacityInternal_d00df_5 : decode cJ5_ensureCapacityInternal_d00df 5 = .ok (.aload_n 0, 1) := by decide +kernel
theorem dJ5_ensureCapacityInternal_d00df_6 : decode cJ5_ensureCapacityInternal_d00df 6 = .ok (.getfield 22, 3) := by decide +kernel
theorem dJ5_ensureCapacityInternal_d00df_9 : decode cJ5_ensureCapacityInternal_d00df 9 = .ok (.ishr, 1) := by decide +kernel
theorem dJ5_ensureCapacityInternal_d00df_10 : decode cJ5_ensureCapacityInternal_d00df 10 = .ok (.istore_n 2, 1) := by decide +kernel
theorem dJ5_ensureCapacityInternal_d00df_11 : decode cJ5_ensureCapacityInternal_d00df 11 = .ok (.iload_n 1, 1) := by decide +kernel
theorem dJ5_ensureCapacityInternal_d00df_12 : decode cJ5_ensureCapacityInternal_d00df 12 = .ok (.iload_n 2, 1) := by decide +kernel
theorem dJ5_ensureCapacityInternal_d00df_13 : decode cJ5_ensureCapacityInternal_d00df 13 = .ok (.isub, 1) := by decide +kernel
theorem dJ5_ensureCapacityInternal_d00df_14 : decode cJ5_ensureCapacityInternal_d00df 14 = .ok (.ifCond .le 24, 3) := by decide +kernel
theorem dJ5_ensureCapacityInternal_d00df_17 : decode cJ5_ensureCapacityInternal_d00df 17 = .ok (.aload_n 0, 1) := by decide +kernel
theorem dJ5_ensureCapacityInternal_d00df_18 : decode cJ5_ensureCapacityInternal_d00df 18 = .ok (.aload_n 0, 1) := by decide +kernel
theorem dJ5_ensureCapacityInternal_d00df_19 : decode cJ5_ensureCapacityInternal_d00df 19 = .ok (.getfield 15, 3) := by decide +kernel
theorem dJ5_ensureCapacityInternal_d00df_22 : decode cJ5_ensureCapacityInternal_d00df 22 = .ok (.aload_n 0, 1) := by decide +kernel
theorem dJ5_ensureCapacityInternal_d00df_23 : decode cJ5_ensureCapacityInternal_d00df 23 = .ok (.iload_n 1, 1) := by decide +kernel
theorem dJ5_ensureCapacityInternal_d00df_24 : decode cJ5_ensureCapacityInternal_d00df 24 = .ok (.invokevirtual 104, 3) := by decide +kernel
theorem dJ5_ensureCapacityInternal_d00df_27 : decode cJ5_ensureCapacityInternal_d00df 27 = .ok (.aload_n 0, 1) := by decide +kernel
theorem dJ5_ensureCapacityInternal_d00df_28 : decode cJ5_ensureCapacityInternal_d00df 28 = .ok (.getfield 22, 3) := by decide +kernel
theorem dJ5_ensureCapacityInternal_d00df_31 : decode cJ5_ensureCapacityInternal_d00df 31 = .ok (.ishl, 1) := by decide +kernel
theorem dJ5_ensureCapacityInternal_d00df_32 : decode cJ5_ensureCapacityInternal_d00df 32 = .ok (.invokestatic 108, 3) := by decide +kernel
theorem dJ5_ensureCapacityInternal_d00df_35 : decode cJ5_ensureCapacityInternal_d00df 35 = .ok (.putfield 15, 3) := by decide +kernel
theorem dJ5_ensureCapacityInternal_d00df_38 : decode cJ5_ensureCapacityInternal_d00df 38 = .ok (.return_, 1) := by decide +kernel
theorem dJ5_newCapacity_0f7a4_0 : decode cJ5_newCapacity_0f7a4 0 = .ok (.aload_n 0, 1) := by decide +kernel
theorem dJ5_newCapacity_0f7a4_1 : decode cJ5_newCapacity_0f7a4 1 = .ok (.getfield 15, 3) := by decide +kernel
theorem dJ5_newCapacity_0f7a4_4 : decode cJ5_newCapacity_0f7a4 4 = .ok (.arraylength, 1) := by decide +kernel
theorem dJ5_newCapacity_0f7a4_5 : decode cJ5_newCapacity_0f7a4 5 = .ok (.istore_n 2, 1) := by decide +kernel
theorem dJ5_newCapacity_0f7a4_6 : decode cJ5_newCapacity_0f7a4 6 = .ok (.iload_n 1, 1) := by decide +kernel
theorem dJ5_newCapacity_0f7a4_7 : decode cJ5_newCapacity_0f7a4 7 = .ok (.aload_n 0, 1) := by decide +kernel
theorem dJ5_newCapacity_0f7a4_8 : decode cJ5_newCapacity_0f7a4 8 = .ok (.getfield 22, 3) := by decide +kernel
theorem dJ5_newCapacity_0f7a4_11 : decode cJ5_newCapacity_0f7a4 11 = .ok (.ishl, 1) := by decide +kernel
theorem dJ5_newCapacity_0f7a4_12 : decode cJ5_newCapacity_0f7a4 12 = .ok (.istore_n 3, 1) := by decide +kernel
theorem dJ5_newCapacity_0f7a4_13 : decode cJ5_newCapacity_0f7a4 13 = .ok (.iload_n 3, 1) := by decide +kernel
theorem dJ5_newCapacity_0f7a4_14 : decode cJ5_newCapacity_0f7a4 14 = .ok (.iload_n 2, 1) := by decide +kernel
theorem dJ5_newCapacity_0f7a4_15 : decode cJ5_newCapacity_0f7a4 15 = .ok (.isub, 1) := by decide +kernel
theorem dJ5_newCapacity_0f7a4_16 : decode cJ5_newCapacity_0f7a4 16 = .ok (.istore 4, 2) := by decide +kernel
theorem dJ5_newCapacity_0f7a4_18 : decode cJ5_newCapacity_0f7a4 18 = .ok (.iload_n 2, 1) := by decide +kernel
theorem dJ5_newCapacity_0f7a4_19 : decode cJ5_newCapacity_0f7a4 19 = .ok (.iload 4, 2) := by decide +kernel
theorem dJ5_newCapacity_0f7a4_21 : decode cJ5_newCapacity_0f7a4 21 = .ok (.iload_n 2, 1) := by decide +kernel
theorem dJ5_newCapacity_0f7a4_22 : decode cJ5_newCapacity_0f7a4 22 = .ok (.iconst 2, 1) := by decide +kernel
theorem dJ5_newCapacity_0f7a4_23 : decode cJ5_newCapacity_0f7a4 23 = .ok (.aload_n 0, 1) := by decide +kernel
theorem dJ5_newCapacity_0f7a4_24 : decode cJ5_newCapacity_0f7a4 24 = .ok (.getfield 22, 3) := by decide +kernel
theorem dJ5_newCapacity_0f7a4_27 : decode cJ5_newCapacity_0f7a4 27 = .ok (.ishl, 1) := by decide +kernel
theorem dJ5_newCapacity_0f7a4_28 : decode cJ5_newCapacity_0f7a4 28 = .ok (.iadd, 1) := by decide +kernel
theorem dJ5_newCapacity_0f7a4_29 : decode cJ5_newCapacity_0f7a4 29 = .ok (.invokestatic 114, 3) := by decide +kernel
theorem dJ5_newCapacity_0f7a4_32 : decode cJ5_newCapacity_0f7a4 32 = .ok (.istore 5, 2) := by decide +kernel
theorem dJ5_newCapacity_0f7a4_34 : decode cJ5_newCapacity_0f7a4 34 = .ok (.iload 5, 2) := by decide +kernel
theorem dJ5_newCapacity_0f7a4_36 : decode cJ5_newCapacity_0f7a4 36 = .ok (.ldc 39, 2) := by decide +kernel
theorem dJ5_newCapacity_0f7a4_38 : decode cJ5_newCapacity_0f7a4 38 = .ok (.if_icmp .ne 13, 3) := by decide +kernel
theorem dJ5_newCapacity_0f7a4_41 : decode cJ5_newCapacity_0f7a4 41 = .ok (.new 120, 3) := by decide +kernel
theorem dJ5_newCapacity_0f7a4_44 : decode cJ5_newCapacity_0f7a4 44 = .ok (.dup, 1) := by decide +kernel
theorem dJ5_newCapacity_0f7a4_45 : decode cJ5_newCapacity_0f7a4 45 = .ok (.ldc 122, 2) := by decide +kernel
theorem dJ5_newCapacity_0f7a4_47 : decode cJ5_newCapacity_0f7a4 47 = .ok (.invokespecial 124, 3) := by decide +kernel
theorem dJ5_newCapacity_0f7a4_50 : decode cJ5_newCapacity_0f7a4 50 = .ok (.athrow, 1) := by decide +kernel
theorem dJ5_newCapacity_0f7a4_51 : decode cJ5_newCapacity_0f7a4 51 = .ok (.iload 5, 2) := by decide +kernel
theorem dJ5_newCapacity_0f7a4_53 : decode cJ5_newCapacity_0f7a4 53 = .ok (.aload_n 0, 1) := by decide +kernel
theorem dJ5_newCapacity_0f7a4_54 : decode cJ5_newCapacity_0f7a4 54 = .ok (.getfield 22, 3) := by decide +kernel
theorem dJ5_newCapacity_0f7a4_57 : decode cJ5_newCapacity_0f7a4 57 = .ok (.ishr, 1) := by decide +kernel
theorem dJ5_newCapacity_0f7a4_58 : decode cJ5_newCapacity_0f7a4 58 = .ok (.ireturn, 1) := by decide +kernel
theorem dJ5_inflate_da8c8_0 : decode cJ5_inflate_da8c8 0 = .ok (.aload_n 0, 1) := by decide +kernel
theorem dJ5_inflate_da8c8_1 : decode cJ5_inflate_da8c8 1 = .ok (.invokevirtual 83, 3) := by decide +kernel
theorem dJ5_inflate_da8c8_4 : decode cJ5_inflate_da8c8 4 = .ok (.ifCond .ne 4, 3) := by decide +kernel
theorem dJ5_inflate_da8c8_7 : decode cJ5_inflate_da8c8 7 = .ok (.return_, 1) := by decide +kernel
theorem dJ5_inflate_da8c8_8 : decode cJ5_inflate_da8c8 8 = .ok (.aload_n 0, 1) := by decide +kernel
theorem dJ5_inflate_da8c8_9 : decode cJ5_inflate_da8c8 9 = .ok (.getfield 15, 3) := by decide +kernel
theorem dJ5_inflate_da8c8_12 : decode cJ5_inflate_da8c8 12 = .ok (.arraylength, 1) := by decide +kernel
theorem dJ5_inflate_da8c8_13 : decode cJ5_inflate_da8c8 13 = .ok (.invokestatic 26, 3) := by decide +kernel
theorem dJ5_inflate_da8c8_16 : decode cJ5_inflate_da8c8 16 = .ok (.astore_n 1, 1) := by decide +kernel
theorem dJ5_inflate_da8c8_17 : decode cJ5_inflate_da8c8 17 = .ok (.aload_n 0, 1) := by decide +kernel
theorem dJ5_inflate_da8c8_18 : decode cJ5_inflate_da8c8 18 = .ok (.getfield 15, 3) := by decide +kernel
theorem dJ5_inflate_da8c8_21 : decode cJ5_inflate_da8c8 21 = .ok (.iconst 0, 1) := by decide +kernel
theorem dJ5_inflate_da8c8_22 : decode cJ5_inflate_da8c8 22 = .ok (.aload_n 1, 1) := by decide +kernel
theorem dJ5_inflate_da8c8_23 : decode cJ5_inflate_da8c8 23 = .ok (.iconst 0, 1) := by decide +kernel
theorem dJ5_inflate_da8c8_24 : decode cJ5_inflate_da8c8 24 = .ok (.aload_n 0, 1) := by decide +kernel
theorem dJ5_inflate_da8c8_25 : decode cJ5_inflate_da8c8 25 = .ok (.getfield 79, 3) := by decide +kernel
theorem dJ5_inflate_da8c8_28 : decode cJ5_inflate_da8c8 28 = .ok (.invokestatic 125, 3) := by decide +kernel
theorem dJ5_inflate_da8c8_31 : decode cJ5_inflate_da8c8 31 = .ok (.aload_n 0, 1) := by decide +kernel
theorem dJ5_inflate_da8c8_32 : decode cJ5_inflate_da8c8 32 = .ok (.aload_n 1, 1) := by decide +kernel
theorem dJ5_inflate_da8c8_33 : decode cJ5_inflate_da8c8 33 = .ok (.putfield 15, 3) := by decide +kernel
theorem dJ5_inflate_da8c8_36 : decode cJ5_inflate_da8c8 36 = .ok (.aload_n 0, 1) := by decide +kernel
theorem dJ5_inflate_da8c8_37 : decode cJ5_inflate_da8c8 37 = .ok (.iconst 1, 1) := by decide +kernel
theorem dJ5_inflate_da8c8_38 : decode cJ5_inflate_da8c8 38 = .ok (.putfield 22, 3) := by decide +kernel
theorem dJ5_inflate_da8c8_41 : decode cJ5_inflate_da8c8 41 = .ok (.return_, 1) := by decide +kernel
theorem dJ5_setLength_d00df_0 : decode cJ5_setLength_d00df 0 = .ok (.iload_n 1, 1) := by decide +kernel
theorem dJ5_setLength_d00df_1 : decode cJ5_setLength_d00df 1 = .ok (.ifCond .ge 12, 3) := by decide +kernel
theorem dJ5_setLength_d00df_4 : decode cJ5_setLength_d00df 4 = .ok (.new 129, 3) := by decide +kernel
theorem dJ5_setLength_d00df_7 : decode cJ5_setLength_d00df 7 = .ok (.dup, 1) := by decide +kernel
theorem dJ5_setLength_d00df_8 : decode cJ5_setLength_d00df 8 = .ok (.iload_n 1, 1) := by decide +kernel
theorem dJ5_setLength_d00df_9 : decode cJ5_setLength_d00df 9 = .ok (.invokespecial 131, 3) := by decide +kernel
theorem dJ5_setLength_d00df_12 : decode cJ5_setLength_d00df 12 = .ok (.athrow, 1) := by decide +kernel
theorem dJ5_setLength_d00df_13 : decode cJ5_setLength_d00df 13 = .ok (.aload_n 0, 1) := by decide +kernel
theorem dJ5_setLength_d00df_14 : decode cJ5_setLength_d00df 14 = .ok (.iload_n 1, 1) := by decide +kernel
theorem dJ5_setLength_d00df_15 : decode cJ5_setLength_d00df 15 = .ok (.invokevirtual 100, 3) := by decide +kernel
theorem dJ5_setLength_d00df_18 : decode cJ5_setLength_d00df 18 = .ok (.aload_n 0, 1) := by decide +kernel
theorem dJ5_setLength_d00df_19 : decode cJ5_setLength_d00df 19 = .ok (.getfield 79, 3) := by decide +kernel
theorem dJ5_setLength_d00df_22 : decode cJ5_setLength_d00df 22 = .ok (.iload_n 1, 1) := by decide +kernel
theorem dJ5_setLength_d00df_23 : decode cJ5_setLength_d00df 23 = .ok (.if_icmp .ge 40, 3) := by decide +kernel
theorem dJ5_setLength_d00df_26 : decode cJ5_setLength_d00df 26 = .ok (.aload_n 0, 1) := by decide +kernel
theorem dJ5_setLength_d00df_27 : decode cJ5_setLength_d00df 27 = .ok (.invokevirtual 83, 3) := by decide +kernel
theorem dJ5_setLength_d00df_30 : decode cJ5_setLength_d00df 30 = .ok (.ifCond .eq 18, 3) := by decide +kernel
theorem dJ5_setLength_d00df_33 : decode cJ5_setLength_d00df 33 = .ok (.aload_n 0, 1) := by decide +kernel
theorem dJ5_setLength_d00df_34 : decode cJ5_setLength_d00df 34 = .ok (.getfield 15, 3) := by decide +kernel
theorem dJ5_setLength_d00df_37 : decode cJ5_setLength_d00df 37 = .ok (.aload_n 0, 1) := by decide +kernel
theorem dJ5_setLength_d00df_38 : decode cJ5_setLength_d00df 38 = .ok (.getfield 79, 3) := by decide +kernel
theorem dJ5_setLength_d00df_41 : decode cJ5_setLength_d00df 41 = .ok (.iload_n 1, 1) := by decide +kernel
theorem dJ5_setLength_d00df_42 : decode cJ5_setLength_d00df 42 = .ok (.invokestatic 133, 3) := by decide +kernel
theorem dJ5_setLength_d00df_45 : decode cJ5_setLength_d00df 45 = .ok (.goto 31, 3) := by decide +kernel
theorem dJ5_setLength_d00df_48 : decode cJ5_setLength_d00df 48 = .ok (.aload_n 0, 1) := by decide +kernel
theorem dJ5_setLength_d00df_49 : decode cJ5_setLength_d00df 49 = .ok (.getfield 15, 3) := by decide +kernel
theorem dJ5_setLength_d00df_52 : decode cJ5_setLength_d00df 52 = .ok (.aload_n 0, 1) := by decide +kernel
theorem dJ5_setLength_d00df_53 : decode cJ5_setLength_d00df 53 = .ok (.getfield 79, 3) := by decide +kernel
theorem dJ5_setLength_d00df_56 : decode cJ5_setLength_d00df 56 = .ok (.iload_n 1, 1) := by decide +kernel
theorem dJ5_setLength_d00df_57 : decode cJ5_setLength_d00df 57 = .ok (.invokestatic 137, 3) := by decide +kernel
theorem dJ5_setLength_d00df_60 : decode cJ5_setLength_d00df 60 = .ok (.goto 16, 3) := by decide +kernel
theorem dJ5_setLength_d00df_63 : decode cJ5_setLength_d00df 63 = .ok (.aload_n 0, 1) := by decide +kernel
theorem dJ5_setLength_d00df_64 : decode cJ5_setLength_d00df 64 = .ok (.getfield 79, 3) := by decide +kernel
theorem dJ5_setLength_d00df_67 : decode cJ5_setLength_d00df 67 = .ok (.iload_n 1, 1) := by decide +kernel
theorem dJ5_setLength_d00df_68 : decode cJ5_setLength_d00df 68 = .ok (.if_icmp .le 8, 3) := by decide +kernel
theorem dJ5_setLength_d00df_71 : decode cJ5_setLength_d00df 71 = .ok (.aload_n 0, 1) := by decide +kernel
theorem dJ5_setLength_d00df_72 : decode cJ5_setLength_d00df 72 = .ok (.iconst 1, 1) := by decide +kernel
theorem dJ5_setLength_d00df_73 : decode cJ5_setLength_d00df 73 = .ok (.putfield 73, 3) := by decide +kernel
theorem dJ5_setLength_d00df_76 : decode cJ5_setLength_d00df 76 = .ok (.aload_n 0, 1) := by decide +kernel
theorem dJ5_setLength_d00df_77 : decode cJ5_setLength_d00df 77 = .ok (.iload_n 1, 1) := by decide +kernel
theorem dJ5_setLength_d00df_78 : decode cJ5_setLength_d00df 78 = .ok (.putfield 79, 3) := by decide +kernel
theorem dJ5_setLength_d00df_81 : decode cJ5_setLength_d00df 81 = .ok (.return_, 1) := by decide +kernel
theorem dJ5_charAt_5068e_0 : decode cJ5_charAt_5068e 0 = .ok (.aload_n 0, 1) := by decide +kernel
theorem dJ5_charAt_5068e_1 : decode cJ5_charAt_5068e 1 = .ok (.getfield 22, 3) := by decide +kernel
theorem dJ5_charAt_5068e_4 : decode cJ5_charAt_5068e 4 = .ok (.istore_n 2, 1) := by decide +kernel
theorem dJ5_charAt_5068e_5 : decode cJ5_charAt_5068e 5 = .ok (.aload_n 0, 1) := by decide +kernel
theorem dJ5_charAt_5068e_6 : decode cJ5_charAt_5068e 6 = .ok (.getfield 15, 3) := by decide +kernel
theorem dJ5_charAt_5068e_9 : decode cJ5_charAt_5068e 9 = .ok (.astore_n 3, 1) := by decide +kernel
theorem dJ5_charAt_5068e_10 : decode cJ5_charAt_5068e 10 = .ok (.aload_n 0, 1) := by decide +kernel
theorem dJ5_charAt_5068e_11 : decode cJ5_charAt_5068e 11 = .ok (.getfield 79, 3) := by decide +kernel
theorem dJ5_charAt_5068e_14 : decode cJ5_charAt_5068e 14 = .ok (.aload_n 3, 1) := by decide +kernel
theorem dJ5_charAt_5068e_15 : decode cJ5_charAt_5068e 15 = .ok (.arraylength, 1) := by decide +kernel
theorem dJ5_charAt_5068e_16 : decode cJ5_charAt_5068e 16 = .ok (.iload_n 2, 1) := by decide +kernel
theorem dJ5_charAt_5068e_17 : decode cJ5_charAt_5068e 17 = .ok (.ishr, 1) := by decide +kernel
theorem dJ5_charAt_5068e_18 : decode cJ5_charAt_5068e 18 = .ok (.invokestatic 138, 3) := by decide +kernel
theorem dJ5_charAt_5068e_21 : decode cJ5_charAt_5068e 21 = .ok (.istore 4, 2) := by decide +kernel
theorem dJ5_charAt_5068e_23 : decode cJ5_charAt_5068e 23 = .ok (.iload_n 1, 1) := by decide +kernel
theorem dJ5_charAt_5068e_24 : decode cJ5_charAt_5068e 24 = .ok (.iload 4, 2) := by decide +kernel
theorem dJ5_charAt_5068e_26 : decode cJ5_charAt_5068e 26 = .ok (.invokestatic 144, 3) := by decide +kernel
theorem dJ5_charAt_5068e_29 : decode cJ5_charAt_5068e 29 = .ok (.iload_n 2, 1) := by decide +kernel
theorem dJ5_charAt_5068e_30 : decode cJ5_charAt_5068e 30 = .ok (.ifCond .ne 12, 3) := by decide +kernel
theorem dJ5_charAt_5068e_33 : decode cJ5_charAt_5068e 33 = .ok (.aload_n 3, 1) := by decide +kernel
theorem dJ5_charAt_5068e_34 : decode cJ5_charAt_5068e 34 = .ok (.iload_n 1, 1) := by decide +kernel
theorem dJ5_charAt_5068e_35 : decode cJ5_charAt_5068e 35 = .ok (.baload, 1) := by decide +kernel
theorem dJ5_charAt_5068e_36 : decode cJ5_charAt_5068e 36 = .ok (.sipush 255, 3) := by decide +kernel
theorem dJ5_charAt_5068e_39 : decode cJ5_charAt_5068e 39 = .ok (.iand, 1) := by decide +kernel
theorem dJ5_charAt_5068e_40 : decode cJ5_charAt_5068e 40 = .ok (.i2c, 1) := by decide +kernel
theorem dJ5_charAt_5068e_41 : decode cJ5_charAt_5068e 41 = .ok (.ireturn, 1) := by decide +kernel
theorem dJ5_charAt_5068e_42 : decode cJ5_charAt_5068e 42 = .ok (.aload_n 3, 1) := by decide +kernel
theorem dJ5_charAt_5068e_43 : decode cJ5_charAt_5068e 43 = .ok (.iload_n 1, 1) := by decide +kernel
theorem dJ5_charAt_5068e_44 : decode cJ5_charAt_5068e 44 = .ok (.invokestatic 148, 3) := by decide +kernel
theorem dJ5_charAt_5068e_47 : decode cJ5_charAt_5068e 47 = .ok (.ireturn, 1) := by decide +kernel
theorem dJ5_append_cf1ce_0 : decode cJ5_append_cf1ce 0 = .ok (.aload_n 1, 1) := by decide +kernel
theorem dJ5_append_cf1ce_1 : decode cJ5_append_cf1ce 1 = .ok (.ifnonnull 8, 3) := by decide +kernel
theorem dJ5_append_cf1ce_4 : decode cJ5_append_cf1ce 4 = .ok (.aload_n 0, 1) := by decide +kernel
theorem dJ5_append_cf1ce_5 : decode cJ5_append_cf1ce 5 = .ok (.invokevirtual 204, 3) := by decide +kernel
theorem dJ5_append_cf1ce_8 : decode cJ5_append_cf1ce 8 = .ok (.areturn, 1) := by decide +kernel
theorem dJ5_append_cf1ce_9 : decode cJ5_append_cf1ce 9 = .ok (.aload_n 1, 1) := by decide +kernel
theorem dJ5_append_cf1ce_10 : decode cJ5_append_cf1ce 10 = .ok (.invokevirtual 32, 3) := by decide +kernel
theorem dJ5_append_cf1ce_13 : decode cJ5_append_cf1ce 13 = .ok (.istore_n 2, 1) := by decide +kernel
theorem dJ5_append_cf1ce_14 : decode cJ5_append_cf1ce 14 = .ok (.aload_n 0, 1) := by decide +kernel
theorem dJ5_append_cf1ce_15 : decode cJ5_append_cf1ce 15 = .ok (.aload_n 0, 1) := by decide +kernel
theorem dJ5_append_cf1ce_16 : decode cJ5_append_cf1ce 16 = .ok (.getfield 79, 3) := by decide +kernel
theorem dJ5_append_cf1ce_19 : decode cJ5_append_cf1ce 19 = .ok (.iload_n 2, 1) := by decide +kernel
theorem dJ5_append_cf1ce_20 : decode cJ5_append_cf1ce 20 = .ok (.iadd, 1) := by decide +kernel
theorem dJ5_append_cf1ce_21 : decode cJ5_append_cf1ce 21 = .ok (.invokevirtual 100, 3) := by decide +kernel
theorem dJ5_append_cf1ce_24 : decode cJ5_append_cf1ce 24 = .ok (.aload_n 0, 1) := by decide +kernel
theorem dJ5_append_cf1ce_25 : decode cJ5_append_cf1ce 25 = .ok (.aload_n 0, 1) := by decide +kernel
theorem dJ5_append_cf1ce_26 : decode cJ5_append_cf1ce 26 = .ok (.getfield 79, 3) := by decide +kernel
theorem dJ5_append_cf1ce_29 : decode cJ5_append_cf1ce 29 = .ok (.aload_n 1, 1) := by decide +kernel
theorem dJ5_append_cf1ce_30 : decode cJ5_append_cf1ce 30 = .ok (.invokevirtual 208, 3) := by decide +kernel
theorem dJ5_append_cf1ce_33 : decode cJ5_append_cf1ce 33 = .ok (.aload_n 0, 1) := by decide +kernel
theorem dJ5_append_cf1ce_34 : decode cJ5_append_cf1ce 34 = .ok (.dup, 1) := by decide +kernel
theorem dJ5_append_cf1ce_35 : decode cJ5_append_cf1ce 35 = .ok (.getfield 79, 3) := by decide +kernel
theorem dJ5_append_cf1ce_38 : decode cJ5_append_cf1ce 38 = .ok (.iload_n 2, 1) := by decide +kernel
theorem dJ5_append_cf1ce_39 : decode cJ5_append_cf1ce 39 = .ok (.iadd, 1) := by decide +kernel
theorem dJ5_append_cf1ce_40 : decode cJ5_append_cf1ce 40 = .ok (.putfield 79, 3) := by decide +kernel
theorem dJ5_append_cf1ce_43 : decode cJ5_append_cf1ce 43 = .ok (.aload_n 0, 1) := by decide +kernel
theorem dJ5_append_cf1ce_44 : decode cJ5_append_cf1ce 44 = .ok (.areturn, 1) := by decide +kernel
theorem dJ5_appendNull_278bc_0 : decode cJ5_appendNull_278bc 0 = .ok (.aload_n 0, 1) := by decide +kernel
theorem dJ5_appendNull_278bc_1 : decode cJ5_appendNull_278bc 1 = .ok (.aload_n 0, 1) := by decide +kernel
theorem dJ5_appendNull_278bc_2 : decode cJ5_appendNull_278bc 2 = .ok (.getfield 79, 3) := by decide +kernel
theorem dJ5_appendNull_278bc_5 : decode cJ5_appendNull_278bc 5 = .ok (.iconst 4, 1) := by decide +kernel
theorem dJ5_appendNull_278bc_6 : decode cJ5_appendNull_278bc 6 = .ok (.iadd, 1) := by decide +kernel
theorem dJ5_appendNull_278bc_7 : decode cJ5_appendNull_278bc 7 = .ok (.invokevirtual 100, 3) := by decide +kernel
theorem dJ5_appendNull_278bc_10 : decode cJ5_appendNull_278bc 10 = .ok (.aload_n 0, 1) := by decide +kernel
theorem dJ5_appendNull_278bc_11 : decode cJ5_appendNull_278bc 11 = .ok (.getfield 79, 3) := by decide +kernel
theorem dJ5_appendNull_278bc_14 : decode cJ5_appendNull_278bc 14 = .ok (.istore_n 1, 1) := by decide +kernel
theorem dJ5_appendNull_278bc_15 : decode cJ5_appendNull_278bc 15 = .ok (.aload_n 0, 1) := by decide +kernel
theorem dJ5_appendNull_278bc_16 : decode cJ5_appendNull_278bc 16 = .ok (.getfield 15, 3) := by decide +kernel
theorem dJ5_appendNull_278bc_19 : decode cJ5_appendNull_278bc 19 = .ok (.astore_n 2, 1) := by decide +kernel
theorem dJ5_appendNull_278bc_20 : decode cJ5_appendNull_278bc 20 = .ok (.aload_n 0, 1) := by decide +kernel
theorem dJ5_appendNull_278bc_21 : decode cJ5_appendNull_278bc 21 = .ok (.invokevirtual 83, 3) := by decide +kernel
theorem dJ5_appendNull_278bc_24 : decode cJ5_appendNull_278bc 24 = .ok (.ifCond .eq 38, 3) := by decide +kernel
theorem dJ5_appendNull_278bc_27 : decode cJ5_appendNull_278bc 27 = .ok (.aload_n 2, 1) := by decide +kernel
theorem dJ5_appendNull_278bc_28 : decode cJ5_appendNull_278bc 28 = .ok (.iload_n 1, 1) := by decide +kernel
theorem dJ5_appendNull_278bc_29 : decode cJ5_appendNull_278bc 29 = .ok (.iinc 1 1, 3) := by decide +kernel
theorem dJ5_appendNull_278bc_32 : decode cJ5_appendNull_278bc 32 = .ok (.bipush 110, 2) := by decide +kernel
theorem dJ5_appendNull_278bc_34 : decode cJ5_appendNull_278bc 34 = .ok (.bastore, 1) := by decide +kernel
theorem dJ5_appendNull_278bc_35 : decode cJ5_appendNull_278bc 35 = .ok (.aload_n 2, 1) := by decide +kernel
theorem dJ5_appendNull_278bc_36 : decode cJ5_appendNull_278bc 36 = .ok (.iload_n 1, 1) := by decide +kernel
theorem dJ5_appendNull_278bc_37 : decode cJ5_appendNull_278bc 37 = .ok (.iinc 1 1, 3) := by decide +kernel
theorem dJ5_appendNull_278bc_40 : decode cJ5_appendNull_278bc 40 = .ok (.bipush 117, 2) := by decide +kernel
theorem dJ5_appendNull_278bc_42 : decode cJ5_appendNull_278bc 42 = .ok (.bastore, 1) := by decide +kernel
theorem dJ5_appendNull_278bc_43 : decode cJ5_appendNull_278bc 43 = .ok (.aload_n 2, 1) := by decide +kernel
theorem dJ5_appendNull_278bc_44 : decode cJ5_appendNull_278bc 44 = .ok (.iload_n 1, 1) := by decide +kernel
theorem dJ5_appendNull_278bc_45 : decode cJ5_appendNull_278bc 45 = .ok (.iinc 1 1, 3) := by decide +kernel
theorem dJ5_appendNull_278bc_48 : decode cJ5_appendNull_278bc 48 = .ok (.bipush 108, 2) := by decide +kernel
theorem dJ5_appendNull_278bc_50 : decode cJ5_appendNull_278bc 50 = .ok (.bastore, 1) := by decide +kernel
theorem dJ5_appendNull_278bc_51 : decode cJ5_appendNull_278bc 51 = .ok (.aload_n 2, 1) := by decide +kernel
theorem dJ5_appendNull_278bc_52 : decode cJ5_appendNull_278bc 52 = .ok (.iload_n 1, 1) := by decide +kernel
theorem dJ5_appendNull_278bc_53 : decode cJ5_appendNull_278bc 53 = .ok (.iinc 1 1, 3) := by decide +kernel
theorem dJ5_appendNull_278bc_56 : decode cJ5_appendNull_278bc 56 = .ok (.bipush 108, 2) := by decide +kernel
theorem dJ5_appendNull_278bc_58 : decode cJ5_appendNull_278bc 58 = .ok (.bastore, 1) := by decide +kernel
theorem dJ5_appendNull_278bc_59 : decode cJ5_appendNull_278bc 59 = .ok (.goto 17, 3) := by decide +kernel
theorem dJ5_appendNull_278bc_62 : decode cJ5_appendNull_278bc 62 = .ok (.aload_n 2, 1) := by decide +kernel
theorem dJ5_appendNull_278bc_63 : decode cJ5_appendNull_278bc 63 = .ok (.iload_n 1, 1) := by decide +kernel
theorem dJ5_appendNull_278bc_64 : decode cJ5_appendNull_278bc 64 = .ok (.bipush 110, 2) := by decide +kernel
theorem dJ5_appendNull_278bc_66 : decode cJ5_appendNull_278bc 66 = .ok (.bipush 117, 2) := by decide +kernel
theorem dJ5_appendNull_278bc_68 : decode cJ5_appendNull_278bc 68 = .ok (.bipush 108, 2) := by decide +kernel
theorem dJ5_appendNull_278bc_70 : decode cJ5_appendNull_278bc 70 = .ok (.bipush 108, 2) := by decide +kernel
theorem dJ5_appendNull_278bc_72 : decode cJ5_appendNull_278bc 72 = .ok (.invokestatic 226, 3) := by decide +kernel
theorem dJ5_appendNull_278bc_75 : decode cJ5_appendNull_278bc 75 = .ok (.istore_n 1, 1) := by decide +kernel
theorem dJ5_appendNull_278bc_76 : decode cJ5_appendNull_278bc 76 = .ok (.aload_n 0, 1) := by decide +kernel
theorem dJ5_appendNull_278bc_77 : decode cJ5_appendNull_278bc 77 = .ok (.iload_n 1, 1) := by decide +kernel
theorem dJ5_appendNull_278bc_78 : decode cJ5_appendNull_278bc 78 = .ok (.putfield 79, 3) := by decide +kernel
theorem dJ5_appendNull_278bc_81 : decode cJ5_appendNull_278bc 81 = .ok (.aload_n 0, 1) := by decide +kernel
theorem dJ5_appendNull_278bc_82 : decode cJ5_appendNull_278bc 82 = .ok (.areturn, 1) := by decide +kernel
theorem dJ5_append_3fe6f_0 : decode cJ5_append_3fe6f 0 = .ok (.aload_n 0, 1) := by decide +kernel
theorem dJ5_append_3fe6f_1 : decode cJ5_append_3fe6f 1 = .ok (.aload_n 0, 1) := by decide +kernel
theorem dJ5_append_3fe6f_2 : decode cJ5_append_3fe6f 2 = .ok (.getfield 79, 3) := by decide +kernel
theorem dJ5_append_3fe6f_5 : decode cJ5_append_3fe6f 5 = .ok (.iconst 1, 1) := by decide +kernel
theorem dJ5_append_3fe6f_6 : decode cJ5_append_3fe6f 6 = .ok (.iadd, 1) := by decide +kernel
theorem dJ5_append_3fe6f_7 : decode cJ5_append_3fe6f 7 = .ok (.invokevirtual 100, 3) := by decide +kernel
theorem dJ5_append_3fe6f_10 : decode cJ5_append_3fe6f 10 = .ok (.aload_n 0, 1) := by decide +kernel
theorem dJ5_append_3fe6f_11 : decode cJ5_append_3fe6f 11 = .ok (.invokevirtual 83, 3) := by decide +kernel
theorem dJ5_append_3fe6f_14 : decode cJ5_append_3fe6f 14 = .ok (.ifCond .eq 31, 3) := by decide +kernel
theorem dJ5_append_3fe6f_17 : decode cJ5_append_3fe6f 17 = .ok (.iload_n 1, 1) := by decide +kernel
theorem dJ5_append_3fe6f_18 : decode cJ5_append_3fe6f 18 = .ok (.invokestatic 191, 3) := by decide +kernel
theorem dJ5_append_3fe6f_21 : decode cJ5_append_3fe6f 21 = .ok (.ifCond .eq 24, 3) := by decide +kernel
theorem dJ5_append_3fe6f_24 : decode cJ5_append_3fe6f 24 = .ok (.aload_n 0, 1) := by decide +kernel
theorem dJ5_append_3fe6f_25 : decode cJ5_append_3fe6f 25 = .ok (.getfield 15, 3) := by decide +kernel
theorem dJ5_append_3fe6f_28 : decode cJ5_append_3fe6f 28 = .ok (.aload_n 0, 1) := by decide +kernel
theorem dJ5_append_3fe6f_29 : decode cJ5_append_3fe6f 29 = .ok (.dup, 1) := by decide +kernel
theorem dJ5_append_3fe6f_30 : decode cJ5_append_3fe6f 30 = .ok (.getfield 79, 3) := by decide +kernel
theorem dJ5_append_3fe6f_33 : decode cJ5_append_3fe6f 33 = .ok (.dup_x1, 1) := by decide +kernel
theorem dJ5_append_3fe6f_34 : decode cJ5_append_3fe6f 34 = .ok (.iconst 1, 1) := by decide +kernel
theorem dJ5_append_3fe6f_35 : decode cJ5_append_3fe6f 35 = .ok (.iadd, 1) := by decide +kernel
theorem dJ5_append_3fe6f_36 : decode cJ5_append_3fe6f 36 = .ok (.putfield 79, 3) := by decide +kernel
theorem dJ5_append_3fe6f_39 : decode cJ5_append_3fe6f 39 = .ok (.iload_n 1, 1) := by decide +kernel
theorem dJ5_append_3fe6f_40 : decode cJ5_append_3fe6f 40 = .ok (.i2b, 1) := by decide +kernel
theorem dJ5_append_3fe6f_41 : decode cJ5_append_3fe6f 41 = .ok (.bastore, 1) := by decide +kernel
theorem dJ5_append_3fe6f_42 : decode cJ5_append_3fe6f 42 = .ok (.goto 33, 3) := by decide +kernel
theorem dJ5_append_3fe6f_45 : decode cJ5_append_3fe6f 45 = .ok (.aload_n 0, 1) := by decide +kernel
theorem dJ5_append_3fe6f_46 : decode cJ5_append_3fe6f 46 = .ok (.invokevirtual 83, 3) := by decide +kernel
theorem dJ5_append_3fe6f_49 : decode cJ5_append_3fe6f 49 = .ok (.ifCond .eq 7, 3) := by decide +kernel
theorem dJ5_append_3fe6f_52 : decode cJ5_append_3fe6f 52 = .ok (.aload_n 0, 1) := by decide +kernel
theorem dJ5_append_3fe6f_53 : decode cJ5_append_3fe6f 53 = .ok (.invokevirtual 195, 3) := by decide +kernel
theorem dJ5_append_3fe6f_56 : decode cJ5_append_3fe6f 56 = .ok (.aload_n 0, 1) := by decide +kernel
theorem dJ5_append_3fe6f_57 : decode cJ5_append_3fe6f 57 = .ok (.getfield 15, 3) := by decide +kernel
theorem dJ5_append_3fe6f_60 : decode cJ5_append_3fe6f 60 = .ok (.aload_n 0, 1) := by decide +kernel
theorem dJ5_append_3fe6f_61 : decode cJ5_append_3fe6f 61 = .ok (.dup, 1) := by decide +kernel
theorem dJ5_append_3fe6f_62 : decode cJ5_append_3fe6f 62 = .ok (.getfield 79, 3) := by decide +kernel
theorem dJ5_append_3fe6f_65 : decode cJ5_append_3fe6f 65 = .ok (.dup_x1, 1) := by decide +kernel
theorem dJ5_append_3fe6f_66 : decode cJ5_append_3fe6f 66 = .ok (.iconst 1, 1) := by decide +kernel
theorem dJ5_append_3fe6f_67 : decode cJ5_append_3fe6f 67 = .ok (.iadd, 1) := by decide +kernel
theorem dJ5_append_3fe6f_68 : decode cJ5_append_3fe6f 68 = .ok (.putfield 79, 3) := by decide +kernel
theorem dJ5_append_3fe6f_71 : decode cJ5_append_3fe6f 71 = .ok (.iload_n 1, 1) := by decide +kernel
theorem dJ5_append_3fe6f_72 : decode cJ5_append_3fe6f 72 = .ok (.invokestatic 197, 3) := by decide +kernel
theorem dJ5_append_3fe6f_75 : decode cJ5_append_3fe6f 75 = .ok (.aload_n 0, 1) := by decide +kernel
theorem dJ5_append_3fe6f_76 : decode cJ5_append_3fe6f 76 = .ok (.areturn, 1) := by decide +kernel
theorem dJ5_append_c97b9_0 : decode cJ5_append_c97b9 0 = .ok (.aload_n 0, 1) := by decide +kernel
theorem dJ5_append_c97b9_1 : decode cJ5_append_c97b9 1 = .ok (.getfield 79, 3) := by decide +kernel
theorem dJ5_append_c97b9_4 : decode cJ5_append_c97b9 4 = .ok (.istore_n 2, 1) := by decide +kernel
theorem dJ5_append_c97b9_5 : decode cJ5_append_c97b9 5 = .ok (.iload_n 2, 1) := by decide +kernel
theorem dJ5_append_c97b9_6 : decode cJ5_append_c97b9 6 = .ok (.iload_n 1, 1) := by decide +kernel
theorem dJ5_append_c97b9_7 : decode cJ5_append_c97b9 7 = .ok (.invokestatic 245, 3) := by decide +kernel
theorem dJ5_append_c97b9_10 : decode cJ5_append_c97b9 10 = .ok (.iadd, 1) := by decide +kernel
theorem dJ5_append_c97b9_11 : decode cJ5_append_c97b9 11 = .ok (.istore_n 3, 1) := by decide +kernel
theorem dJ5_append_c97b9_12 : decode cJ5_append_c97b9 12 = .ok (.aload_n 0, 1) := by decide +kernel
theorem dJ5_append_c97b9_13 : decode cJ5_append_c97b9 13 = .ok (.iload_n 3, 1) := by decide +kernel
theorem dJ5_append_c97b9_14 : decode cJ5_append_c97b9 14 = .ok (.invokevirtual 100, 3) := by decide +kernel
theorem dJ5_append_c97b9_17 : decode cJ5_append_c97b9 17 = .ok (.aload_n 0, 1) := by decide +kernel
theorem dJ5_append_c97b9_18 : decode cJ5_append_c97b9 18 = .ok (.invokevirtual 83, 3) := by decide +kernel
theorem dJ5_append_c97b9_21 : decode cJ5_append_c97b9 21 = .ok (.ifCond .eq 16, 3) := by decide +kernel
theorem dJ5_append_c97b9_24 : decode cJ5_append_c97b9 24 = .ok (.iload_n 1, 1) := by decide +kernel
theorem dJ5_append_c97b9_25 : decode cJ5_append_c97b9 25 = .ok (.iload_n 3, 1) := by decide +kernel
theorem dJ5_append_c97b9_26 : decode cJ5_append_c97b9 26 = .ok (.aload_n 0, 1) := by decide +kernel
theorem dJ5_append_c97b9_27 : decode cJ5_append_c97b9 27 = .ok (.getfield 15, 3) := by decide +kernel
theorem dJ5_append_c97b9_30 : decode cJ5_append_c97b9 30 = .ok (.invokestatic 248, 3) := by decide +kernel
theorem dJ5_append_c97b9_33 : decode cJ5_append_c97b9 33 = .ok (.pop, 1) := by decide +kernel
theorem dJ5_append_c97b9_34 : decode cJ5_append_c97b9 34 = .ok (.goto 14, 3) := by decide +kernel
theorem dJ5_append_c97b9_37 : decode cJ5_append_c97b9 37 = .ok (.iload_n 1, 1) := by decide +kernel
theorem dJ5_append_c97b9_38 : decode cJ5_append_c97b9 38 = .ok (.iload_n 2, 1) := by decide +kernel
theorem dJ5_append_c97b9_39 : decode cJ5_append_c97b9 39 = .ok (.iload_n 3, 1) := by decide +kernel
theorem dJ5_append_c97b9_40 : decode cJ5_append_c97b9 40 = .ok (.aload_n 0, 1) := by decide +kernel
theorem dJ5_append_c97b9_41 : decode cJ5_append_c97b9 41 = .ok (.getfield 15, 3) := by decide +kernel
theorem dJ5_append_c97b9_44 : decode cJ5_append_c97b9 44 = .ok (.invokestatic 251, 3) := by decide +kernel
theorem dJ5_append_c97b9_47 : decode cJ5_append_c97b9 47 = .ok (.pop, 1) := by decide +kernel
theorem dJ5_append_c97b9_48 : decode cJ5_append_c97b9 48 = .ok (.aload_n 0, 1) := by decide +kernel
theorem dJ5_append_c97b9_49 : decode cJ5_append_c97b9 49 = .ok (.iload_n 3, 1) := by decide +kernel
theorem dJ5_append_c97b9_50 : decode cJ5_append_c97b9 50 = .ok (.putfield 79, 3) := by decide +kernel
theorem dJ5_append_c97b9_53 : decode cJ5_append_c97b9 53 = .ok (.aload_n 0, 1) := by decide +kernel
theorem dJ5_append_c97b9_54 : decode cJ5_append_c97b9 54 = .ok (.areturn, 1) := by decide +kernel
theorem dJ5_getValue_6d5f1_0 : decode cJ5_getValue_6d5f1 0 = .ok (.aload_n 0, 1) := by decide +kernel
theorem dJ5_getValue_6d5f1_1 : decode cJ5_getValue_6d5f1 1 = .ok (.getfield 15, 3) := by decide +kernel
theorem dJ5_getValue_6d5f1_4 : decode cJ5_getValue_6d5f1 4 = .ok (.areturn, 1) := by decide +kernel
theorem dJ5_isLatin1_aae02_0 : decode cJ5_isLatin1_aae02 0 = .ok (.getstatic 18, 3) := by decide +kernel
theorem dJ5_isLatin1_aae02_3 : decode cJ5_isLatin1_aae02 3 = .ok (.ifCond .eq 14, 3) := by decide +kernel
theorem dJ5_isLatin1_aae02_6 : decode cJ5_isLatin1_aae02 6 = .ok (.aload_n 0, 1) := by decide +kernel
theorem dJ5_isLatin1_aae02_7 : decode cJ5_isLatin1_aae02 7 = .ok (.getfield 22, 3) := by decide +kernel
theorem dJ5_isLatin1_aae02_10 : decode cJ5_isLatin1_aae02 10 = .ok (.ifCond .ne 7, 3) := by decide +kernel
theorem dJ5_isLatin1_aae02_13 : decode cJ5_isLatin1_aae02 13 = .ok (.iconst 1, 1) := by decide +kernel
theorem dJ5_isLatin1_aae02_14 : decode cJ5_isLatin1_aae02 14 = .ok (.goto 4, 3) := by decide +kernel
theorem dJ5_isLatin1_aae02_17 : decode cJ5_isLatin1_aae02 17 = .ok (.iconst 0, 1) := by decide +kernel
theorem dJ5_isLatin1_aae02_18 : decode cJ5_isLatin1_aae02 18 = .ok (.ireturn, 1) := by decide +kernel
theorem dJ5_inflateIfNeededFor_a7421_0 : decode cJ5_inflateIfNeededFor_a7421 0 = .ok (.getstatic 18, 3) := by decide +kernel
theorem dJ5_inflateIfNeededFor_a7421_3 : decode cJ5_inflateIfNeededFor_a7421 3 = .ok (.ifCond .eq 18, 3) := by decide +kernel
theorem dJ5_inflateIfNeededFor_a7421_6 : decode cJ5_inflateIfNeededFor_a7421 6 = .ok (.aload_n 0, 1) := by decide +kernel
theorem dJ5_inflateIfNeededFor_a7421_7 : decode cJ5_inflateIfNeededFor_a7421 7 = .ok (.getfield 22, 3) := by decide +kernel
theorem dJ5_inflateIfNeededFor_a7421_10 : decode cJ5_inflateIfNeededFor_a7421 10 = .ok (.aload_n 1, 1) := by decide +kernel
theorem dJ5_inflateIfNeededFor_a7421_11 : decode cJ5_inflateIfNeededFor_a7421 11 = .ok (.invokevirtual 40, 3) := by decide +kernel
theorem dJ5_inflateIfNeededFor_a7421_14 : decode cJ5_inflateIfNeededFor_a7421 14 = .ok (.if_icmp .eq 7, 3) := by decide +kernel
theorem dJ5_inflateIfNeededFor_a7421_17 : decode cJ5_inflateIfNeededFor_a7421 17 = .ok (.aload_n 0, 1) := by decide +kernel
theorem dJ5_inflateIfNeededFor_a7421_18 : decode cJ5_inflateIfNeededFor_a7421 18 = .ok (.invokevirtual 195, 3) := by decide +kernel
theorem dJ5_inflateIfNeededFor_a7421_21 : decode cJ5_inflateIfNeededFor_a7421 21 = .ok (.return_, 1) := by decide +kernel
theorem dJ5_putStringAt_47b60_0 : decode cJ5_putStringAt_47b60 0 = .ok (.aload_n 0, 1) := by decide +kernel
theorem dJ5_putStringAt_47b60_1 : decode cJ5_putStringAt_47b60 1 = .ok (.aload_n 2, 1) := by decide +kernel
theorem dJ5_putStringAt_47b60_2 : decode cJ5_putStringAt_47b60 2 = .ok (.invokevirtual 397, 3) := by decide +kernel
theorem dJ5_putStringAt_47b60_5 : decode cJ5_putStringAt_47b60 5 = .ok (.aload_n 2, 1) := by decide +kernel
theorem dJ5_putStringAt_47b60_6 : decode cJ5_putStringAt_47b60 6 = .ok (.aload_n 0, 1) := by decide +kernel
theorem dJ5_putStringAt_47b60_7 : decode cJ5_putStringAt_47b60 7 = .ok (.getfield 15, 3) := by decide +kernel
theorem dJ5_putStringAt_47b60_10 : decode cJ5_putStringAt_47b60 10 = .ok (.iload_n 1, 1) := by decide +kernel
theorem dJ5_putStringAt_47b60_11 : decode cJ5_putStringAt_47b60 11 = .ok (.aload_n 0, 1) := by decide +kernel
theorem dJ5_putStringAt_47b60_12 : decode cJ5_putStringAt_47b60 12 = .ok (.getfield 22, 3) := by decide +kernel
theorem dJ5_putStringAt_47b60_15 : decode cJ5_putStringAt_47b60 15 = .ok (.invokevirtual 399, 3) := by decide +kernel
theorem dJ5_putStringAt_47b60_18 : decode cJ5_putStringAt_47b60 18 = .ok (.return_, 1) := by decide +kernel
theorem dJx00060_init_a7421_0 : decode cJx00060_init_a7421 0 = .ok (.aload_n 0, 1) := by decide +kernel
theorem dJx00060_init_a7421_1 : decode cJx00060_init_a7421 1 = .ok (.aload_n 1, 1) := by decide +kernel
theorem dJx00060_init_a7421_2 : decode cJx00060_init_a7421 2 = .ok (.invokespecial 7, 3) := by decide +kernel
theorem dJx00060_init_a7421_5 : decode cJx00060_init_a7421 5 = .ok (.return_, 1) := by decide +kernel
theorem dJx00060_init_d00df_0 : decode cJx00060_init_d00df 0 = .ok (.aload_n 0, 1) := by decide +kernel
theorem dJx00060_init_d00df_1 : decode cJx00060_init_d00df 1 = .ok (.new 10, 3) := by decide +kernel
theorem dJx00060_init_d00df_4 : decode cJx00060_init_d00df 4 = .ok (.dup, 1) := by decide +kernel
theorem dJx00060_init_d00df_5 : decode cJx00060_init_d00df 5 = .ok (.invokespecial 12, 3) := by decide +kernel
theorem dJx00060_init_d00df_8 : decode cJx00060_init_d00df 8 = .ok (.ldc 13, 2) := by decide +kernel
theorem dJx00060_init_d00df_10 : decode cJx00060_init_d00df 10 = .ok (.invokevirtual 15, 3) := by decide +kernel
theorem dJx00060_init_d00df_13 : decode cJx00060_init_d00df 13 = .ok (.iload_n 1, 1) := by decide +kernel
theorem dJx00060_init_d00df_14 : decode cJx00060_init_d00df 14 = .ok (.invokevirtual 19, 3) := by decide +kernel
theorem dJx00060_init_d00df_17 : decode cJx00060_init_d00df 17 = .ok (.invokevirtual 22, 3) := by decide +kernel
theorem dJx00060_init_d00df_20 : decode cJx00060_init_d00df 20 = .ok (.invokespecial 7, 3) := by decide +kernel
theorem dJx00060_init_d00df_23 : decode cJx00060_init_d00df 23 = .ok (.return_, 1) := by decide +kernel
theorem dJ6_getChars_ba4f3_0 : decode cJ6_getChars_ba4f3 0 = .ok (.iload_n 1, 1) := by decide +kernel
theorem dJ6_getChars_ba4f3_1 : decode cJ6_getChars_ba4f3 1 = .ok (.istore 5, 2) := by decide +kernel
theorem dJ6_getChars_ba4f3_3 : decode cJ6_getChars_ba4f3 3 = .ok (.iload_n 0, 1) := by decide +kernel
theorem dJ6_getChars_ba4f3_4 : decode cJ6_getChars_ba4f3 4 = .ok (.ifCond .ge 7, 3) := by decide +kernel
theorem dJ6_getChars_ba4f3_7 : decode cJ6_getChars_ba4f3 7 = .ok (.iconst 1, 1) := by decide +kernel
theorem dJ6_getChars_ba4f3_8 : decode cJ6_getChars_ba4f3 8 = .ok (.goto 4, 3) := by decide +kernel
theorem dJ6_getChars_ba4f3_11 : decode cJ6_getChars_ba4f3 11 = .ok (.iconst 0, 1) := by decide +kernel
theorem dJ6_getChars_ba4f3_12 : decode cJ6_getChars_ba4f3 12 = .ok (.istore 6, 2) := by decide +kernel
theorem dJ6_getChars_ba4f3_14 : decode cJ6_getChars_ba4f3 14 = .ok (.iload 6, 2) := by decide +kernel
theorem dJ6_getChars_ba4f3_16 : decode cJ6_getChars_ba4f3 16 = .ok (.ifCond .ne 6, 3) := by decide +kernel
theorem dJ6_getChars_ba4f3_19 : decode cJ6_getChars_ba4f3 19 = .ok (.iload_n 0, 1) := by decide +kernel
theorem dJ6_getChars_ba4f3_20 : decode cJ6_getChars_ba4f3 20 = .ok (.ineg, 1) := by decide +kernel
theorem dJ6_getChars_ba4f3_21 : decode cJ6_getChars_ba4f3 21 = .ok (.istore_n 0, 1) := by decide +kernel
theorem dJ6_getChars_ba4f3_22 : decode cJ6_getChars_ba4f3 22 = .ok (.iload_n 0, 1) := by decide +kernel
theorem dJ6_getChars_ba4f3_23 : decode cJ6_getChars_ba4f3 23 = .ok (.bipush (-100), 2) := by decide +kernel
theorem dJ6_getChars_ba4f3_25 : decode cJ6_getChars_ba4f3 25 = .ok (.if_icmp .gt 47, 3) := by decide +kernel
theorem dJ6_getChars_ba4f3_28 : decode cJ6_getChars_ba4f3 28 = .ok (.iload_n 0, 1) := by decide +kernel
theorem dJ6_getChars_ba4f3_29 : decode cJ6_getChars_ba4f3 29 = .ok (.bipush 100, 2) := by decide +kernel
theorem dJ6_getChars_ba4f3_31 : decode cJ6_getChars_ba4f3 31 = .ok (.idiv, 1) := by decide +kernel
theorem dJ6_getChars_ba4f3_32 : decode cJ6_getChars_ba4f3 32 = .ok (.istore_n 3, 1) := by decide +kernel
theorem dJ6_getChars_ba4f3_33 : decode cJ6_getChars_ba4f3 33 = .ok (.iload_n 3, 1) := by decide +kernel
theorem dJ6_getChars_ba4f3_34 : decode cJ6_getChars_ba4f3 34 = .ok (.bipush 100, 2) := by decide +kernel
theorem dJ6_getChars_ba4f3_36 : decode cJ6_getChars_ba4f3 36 = .ok (.imul, 1) := by decide +kernel
theorem dJ6_getChars_ba4f3_37 : decode cJ6_getChars_ba4f3 37 = .ok (.iload_n 0, 1) := by decide +kernel
theorem dJ6_getChars_ba4f3_38 : decode cJ6_getChars_ba4f3 38 = .ok (.isub, 1) := by decide +kernel
theorem dJ6_getChars_ba4f3_39 : decode cJ6_getChars_ba4f3 39 = .ok (.istore 4, 2) := by decide +kernel
theorem dJ6_getChars_ba4f3_41 : decode cJ6_getChars_ba4f3 41 = .ok (.iload_n 3, 1) := by decide +kernel
theorem dJ6_getChars_ba4f3_42 : decode cJ6_getChars_ba4f3 42 = .ok (.istore_n 0, 1) := by decide +kernel
theorem dJ6_getChars_ba4f3_43 : decode cJ6_getChars_ba4f3 43 = .ok (.aload_n 2, 1) := by decide +kernel
theorem dJ6_getChars_ba4f3_44 : decode cJ6_getChars_ba4f3 44 = .ok (.iinc 5 (-1), 3) := by decide +kernel
theorem dJ6_getChars_ba4f3_47 : decode cJ6_getChars_ba4f3 47 = .ok (.iload 5, 2) := by decide +kernel
theorem dJ6_getChars_ba4f3_49 : decode cJ6_getChars_ba4f3 49 = .ok (.getstatic 83, 3) := by decide +kernel
theorem dJ6_getChars_ba4f3_52 : decode cJ6_getChars_ba4f3 52 = .ok (.iload 4, 2) := by decide +kernel
theorem dJ6_getChars_ba4f3_54 : decode cJ6_getChars_ba4f3 54 = .ok (.baload, 1) := by decide +kernel
theorem dJ6_getChars_ba4f3_55 : decode cJ6_getChars_ba4f3 55 = .ok (.bastore, 1) := by decide +kernel
theorem dJ6_getChars_ba4f3_56 : decode cJ6_getChars_ba4f3 56 = .ok (.aload_n 2, 1) := by decide +kernel
theorem dJ6_getChars_ba4f3_57 : decode cJ6_getChars_ba4f3 57 = .ok (.iinc 5 (-1), 3) := by decide +kernel
theorem dJ6_getChars_ba4f3_60 : decode cJ6_getChars_ba4f3 60 = .ok (.iload 5, 2) := by decide +kernel
theorem dJ6_getChars_ba4f3_62 : decode cJ6_getChars_ba4f3 62 = .ok (.getstatic 87, 3) := by decide +kernel
theorem dJ6_getChars_ba4f3_65 : decode cJ6_getChars_ba4f3 65 = .ok (.iload 4, 2) := by decide +kernel
theorem dJ6_getChars_ba4f3_67 : decode cJ6_getChars_ba4f3 67 = .ok (.baload, 1) := by decide +kernel
theorem dJ6_getChars_ba4f3_68 : decode cJ6_getChars_ba4f3 68 = .ok (.bastore, 1) := by decide +kernel
theorem dJ6_getChars_ba4f3_69 : decode cJ6_getChars_ba4f3 69 = .ok (.goto (-47), 3) := by decide +kernel
theorem dJ6_getChars_ba4f3_72 : decode cJ6_getChars_ba4f3 72 = .ok (.aload_n 2, 1) := by decide +kernel
theorem dJ6_getChars_ba4f3_73 : decode cJ6_getChars_ba4f3 73 = .ok (.iinc 5 (-1), 3) := by decide +kernel
theorem dJ6_getChars_ba4f3_76 : decode cJ6_getChars_ba4f3 76 = .ok (.iload 5, 2) := by decide +kernel
theorem dJ6_getChars_ba4f3_78 : decode cJ6_getChars_ba4f3 78 = .ok (.getstatic 83, 3) := by decide +kernel
theorem dJ6_getChars_ba4f3_81 : decode cJ6_getChars_ba4f3 81 = .ok (.iload_n 0, 1) := by decide +kernel
theorem dJ6_getChars_ba4f3_82 : decode cJ6_getChars_ba4f3 82 = .ok (.ineg, 1) := by decide +kernel
theorem dJ6_getChars_ba4f3_83 : decode cJ6_getChars_ba4f3 83 = .ok (.baload, 1) := by decide +kernel
theorem dJ6_getChars_ba4f3_84 : decode cJ6_getChars_ba4f3 84 = .ok (.bastore, 1) := by decide +kernel
theorem dJ6_getChars_ba4f3_85 : decode cJ6_getChars_ba4f3 85 = .ok (.iload_n 0, 1) := by decide +kernel
theorem dJ6_getChars_ba4f3_86 : decode cJ6_getChars_ba4f3 86 = .ok (.bipush (-9), 2) := by decide +kernel
theorem dJ6_getChars_ba4f3_88 : decode cJ6_getChars_ba4f3 88 = .ok (.if_icmp .ge 16, 3) := by decide +kernel
theorem dJ6_getChars_ba4f3_91 : decode cJ6_getChars_ba4f3 91 = .ok (.aload_n 2, 1) := by decide +kernel
theorem dJ6_getChars_ba4f3_92 : decode cJ6_getChars_ba4f3 92 = .ok (.iinc 5 (-1), 3) := by decide +kernel
theorem dJ6_getChars_ba4f3_95 : decode cJ6_getChars_ba4f3 95 = .ok (.iload 5, 2) := by decide +kernel
theorem dJ6_getChars_ba4f3_97 : decode cJ6_getChars_ba4f3 97 = .ok (.getstatic 87, 3) := by decide +kernel
theorem dJ6_getChars_ba4f3_100 : decode cJ6_getChars_ba4f3 100 = .ok (.iload_n 0, 1) := by decide +kernel
theorem dJ6_getChars_ba4f3_101 : decode cJ6_getChars_ba4f3 101 = .ok (.ineg, 1) := by decide +kernel
theorem dJ6_getChars_ba4f3_102 : decode cJ6_getChars_ba4f3 102 = .ok (.baload, 1) := by decide +kernel
theorem dJ6_getChars_ba4f3_103 : decode cJ6_getChars_ba4f3 103 = .ok (.bastore, 1) := by decide +kernel
theorem dJ6_getChars_ba4f3_104 : decode cJ6_getChars_ba4f3 104 = .ok (.iload 6, 2) := by decide +kernel
theorem dJ6_getChars_ba4f3_106 : decode cJ6_getChars_ba4f3 106 = .ok (.ifCond .eq 12, 3) := by decide +kernel
theorem dJ6_getChars_ba4f3_109 : decode cJ6_getChars_ba4f3 109 = .ok (.aload_n 2, 1) := by decide +kernel
theorem dJ6_getChars_ba4f3_110 : decode cJ6_getChars_ba4f3 110 = .ok (.iinc 5 (-1), 3) := by decide +kernel
theorem dJ6_getChars_ba4f3_113 : decode cJ6_getChars_ba4f3 113 = .ok (.iload 5, 2) := by decide +kernel
theorem dJ6_getChars_ba4f3_115 : decode cJ6_getChars_ba4f3 115 = .ok (.bipush 45, 2) := by decide +kernel
theorem dJ6_getChars_ba4f3_117 : decode cJ6_getChars_ba4f3 117 = .ok (.bastore, 1) := by decide +kernel
theorem dJ6_getChars_ba4f3_118 : decode cJ6_getChars_ba4f3 118 = .ok (.iload 5, 2) := by decide +kernel
theorem dJ6_getChars_ba4f3_120 : decode cJ6_getChars_ba4f3 120 = .ok (.ireturn, 1) := by decide +kernel
theorem dJ6_stringSize_0f7a4_0 : decode cJ6_stringSize_0f7a4 0 = .ok (.iconst 1, 1) := by decide +kernel
theorem dJ6_stringSize_0f7a4_1 : decode cJ6_stringSize_0f7a4 1 = .ok (.istore_n 1, 1) := by decide +kernel
theorem dJ6_stringSize_0f7a4_2 : decode cJ6_stringSize_0f7a4 2 = .ok (.iload_n 0, 1) := by decide +kernel
theorem dJ6_stringSize_0f7a4_3 : decode cJ6_stringSize_0f7a4 3 = .ok (.ifCond .lt 8, 3) := by decide +kernel
theorem dJ6_stringSize_0f7a4_6 : decode cJ6_stringSize_0f7a4 6 = .ok (.iconst 0, 1) := by decide +kernel
theorem dJ6_stringSize_0f7a4_7 : decode cJ6_stringSize_0f7a4 7 = .ok (.istore_n 1, 1) := by decide +kernel
theorem dJ6_stringSize_0f7a4_8 : decode cJ6_stringSize_0f7a4 8 = .ok (.iload_n 0, 1) := by decide +kernel
theorem dJ6_stringSize_0f7a4_9 : decode cJ6_stringSize_0f7a4 9 = .ok (.ineg, 1) := by decide +kernel
theorem dJ6_stringSize_0f7a4_10 : decode cJ6_stringSize_0f7a4 10 = .ok (.istore_n 0, 1) := by decide +kernel
theorem dJ6_stringSize_0f7a4_11 : decode cJ6_stringSize_0f7a4 11 = .ok (.bipush (-10), 2) := by decide +kernel
theorem dJ6_stringSize_0f7a4_13 : decode cJ6_stringSize_0f7a4 13 = .ok (.istore_n 2, 1) := by decide +kernel
theorem dJ6_stringSize_0f7a4_14 : decode cJ6_stringSize_0f7a4 14 = .ok (.iconst 1, 1) := by decide +kernel
theorem dJ6_stringSize_0f7a4_15 : decode cJ6_stringSize_0f7a4 15 = .ok (.istore_n 3, 1) := by decide +kernel
theorem dJ6_stringSize_0f7a4_16 : decode cJ6_stringSize_0f7a4 16 = .ok (.iload_n 3, 1) := by decide +kernel
theorem dJ6_stringSize_0f7a4_17 : decode cJ6_stringSize_0f7a4 17 = .ok (.bipush 10, 2) := by decide +kernel
theorem dJ6_stringSize_0f7a4_19 : decode cJ6_stringSize_0f7a4 19 = .ok (.if_icmp .ge 23, 3) := by decide +kernel
theorem dJ6_stringSize_0f7a4_22 : decode cJ6_stringSize_0f7a4 22 = .ok (.iload_n 0, 1) := by decide +kernel
theorem dJ6_stringSize_0f7a4_23 : decode cJ6_stringSize_0f7a4 23 = .ok (.iload_n 2, 1) := by decide +kernel
theorem dJ6_stringSize_0f7a4_24 : decode cJ6_stringSize_0f7a4 24 = .ok (.if_icmp .le 7, 3) := by decide +kernel
theorem dJ6_stringSize_0f7a4_27 : decode cJ6_stringSize_0f7a4 27 = .ok (.iload_n 3, 1) := by decide +kernel
theorem dJ6_stringSize_0f7a4_28 : decode cJ6_stringSize_0f7a4 28 = .ok (.iload_n 1, 1) := by decide +kernel
theorem dJ6_stringSize_0f7a4_29 : decode cJ6_stringSize_0f7a4 29 = .ok (.iadd, 1) := by decide +kernel
theorem dJ6_stringSize_0f7a4_30 : decode cJ6_stringSize_0f7a4 30 = .ok (.ireturn, 1) := by decide +kernel
theorem dJ6_stringSize_0f7a4_31 : decode cJ6_stringSize_0f7a4 31 = .ok (.bipush 10, 2) := by decide +kernel
theorem dJ6_stringSize_0f7a4_33 : decode cJ6_stringSize_0f7a4 33 = .ok (.iload_n 2, 1) := by decide +kernel
theorem dJ6_stringSize_0f7a4_34 : decode cJ6_stringSize_0f7a4 34 = .ok (.imul, 1) := by decide +kernel
theorem dJ6_stringSize_0f7a4_35 : decode cJ6_stringSize_0f7a4 35 = .ok (.istore_n 2, 1) := by decide +kernel
theorem dJ6_stringSize_0f7a4_36 : decode cJ6_stringSize_0f7a4 36 = .ok (.iinc 3 1, 3) := by decide +kernel
theorem dJ6_stringSize_0f7a4_39 : decode cJ6_stringSize_0f7a4 39 = .ok (.goto (-23), 3) := by decide +kernel
theorem dJ6_stringSize_0f7a4_42 : decode cJ6_stringSize_0f7a4 42 = .ok (.bipush 10, 2) := by decide +kernel
theorem dJ6_stringSize_0f7a4_44 : decode cJ6_stringSize_0f7a4 44 = .ok (.iload_n 1, 1) := by decide +kernel
theorem dJ6_stringSize_0f7a4_45 : decode cJ6_stringSize_0f7a4 45 = .ok (.iadd, 1) := by decide +kernel
theorem dJ6_stringSize_0f7a4_46 : decode cJ6_stringSize_0f7a4 46 = .ok (.ireturn, 1) := by decide +kernel
theorem dJ9_floorMod_7cf53_0 : decode cJ9_floorMod_7cf53 0 = .ok (.iload_n 0, 1) := by decide +kernel
theorem dJ9_floorMod_7cf53_1 : decode cJ9_floorMod_7cf53 1 = .ok (.iload_n 1, 1) := by decide +kernel
theorem dJ9_floorMod_7cf53_2 : decode cJ9_floorMod_7cf53 2 = .ok (.irem, 1) := by decide +kernel
theorem dJ9_floorMod_7cf53_3 : decode cJ9_floorMod_7cf53 3 = .ok (.istore_n 2, 1) := by decide +kernel
theorem dJ9_floorMod_7cf53_4 : decode cJ9_floorMod_7cf53 4 = .ok (.iload_n 0, 1) := by decide +kernel
theorem dJ9_floorMod_7cf53_5 : decode cJ9_floorMod_7cf53 5 = .ok (.iload_n 1, 1) := by decide +kernel
theorem dJ9_floorMod_7cf53_6 : decode cJ9_floorMod_7cf53 6 = .ok (.ixor, 1) := by decide +kernel
theorem dJ9_floorMod_7cf53_7 : decode cJ9_floorMod_7cf53 7 = .ok (.ifCond .ge 11, 3) := by decide +kernel
theorem dJ9_floorMod_7cf53_10 : decode cJ9_floorMod_7cf53 10 = .ok (.iload_n 2, 1) := by decide +kernel
theorem dJ9_floorMod_7cf53_11 : decode cJ9_floorMod_7cf53 11 = .ok (.ifCond .eq 7, 3) := by decide +kernel
theorem dJ9_floorMod_7cf53_14 : decode cJ9_floorMod_7cf53 14 = .ok (.iload_n 2, 1) := by decide +kernel
theorem dJ9_floorMod_7cf53_15 : decode cJ9_floorMod_7cf53 15 = .ok (.iload_n 1, 1) := by decide +kernel
theorem dJ9_floorMod_7cf53_16 : decode cJ9_floorMod_7cf53 16 = .ok (.iadd, 1) := by decide +kernel
theorem dJ9_floorMod_7cf53_17 : decode cJ9_floorMod_7cf53 17 = .ok (.ireturn, 1) := by decide +kernel
theorem dJ9_floorMod_7cf53_18 : decode cJ9_floorMod_7cf53 18 = .ok (.iload_n 2, 1) := by decide +kernel
theorem dJ9_floorMod_7cf53_19 : decode cJ9_floorMod_7cf53 19 = .ok (.ireturn, 1) := by decide +kernel
theorem dJ9_max_7cf53_0 : decode cJ9_max_7cf53 0 = .ok (.iload_n 0, 1) := by decide +kernel
theorem dJ9_max_7cf53_1 : decode cJ9_max_7cf53 1 = .ok (.iload_n 1, 1) := by decide +kernel
theorem dJ9_max_7cf53_2 : decode cJ9_max_7cf53 2 = .ok (.if_icmp .lt 7, 3) := by decide +kernel
theorem dJ9_max_7cf53_5 : decode cJ9_max_7cf53 5 = .ok (.iload_n 0, 1) := by decide +kernel
theorem dJ9_max_7cf53_6 : decode cJ9_max_7cf53 6 = .ok (.goto 4, 3) := by decide +kernel
theorem dJ9_max_7cf53_9 : decode cJ9_max_7cf53 9 = .ok (.iload_n 1, 1) := by decide +kernel
theorem dJ9_max_7cf53_10 : decode cJ9_max_7cf53 10 = .ok (.ireturn, 1) := by decide +kernel
theorem dJ9_min_7cf53_0 : decode cJ9_min_7cf53 0 = .ok (.iload_n 0, 1) := by decide +kernel
theorem dJ9_min_7cf53_1 : decode cJ9_min_7cf53 1 = .ok (.iload_n 1, 1) := by decide +kernel
theorem dJ9_min_7cf53_2 : decode cJ9_min_7cf53 2 = .ok (.if_icmp .gt 7, 3) := by decide +kernel
theorem dJ9_min_7cf53_5 : decode cJ9_min_7cf53 5 = .ok (.iload_n 0, 1) := by decide +kernel
theorem dJ9_min_7cf53_6 : decode cJ9_min_7cf53 6 = .ok (.goto 4, 3) := by decide +kernel
theorem dJ9_min_7cf53_9 : decode cJ9_min_7cf53 9 = .ok (.iload_n 1, 1) := by decide +kernel
theorem dJ9_min_7cf53_10 : decode cJ9_min_7cf53 10 = .ok (.ireturn, 1) := by decide +kernel
theorem dJ0_init_81219_0 : decode cJ0_init_81219 0 = .ok (.aload_n 0, 1) := by decide +kernel
theorem dJ0_init_81219_1 : decode cJ0_init_81219 1 = .ok (.aload_n 1, 1) := by decide +kernel
theorem dJ0_init_81219_2 : decode cJ0_init_81219 2 = .ok (.aconst_null, 1) := by decide +kernel
theorem dJ0_init_81219_3 : decode cJ0_init_81219 3 = .ok (.invokespecial 489, 3) := by decide +kernel
theorem dJ0_init_81219_6 : decode cJ0_init_81219 6 = .ok (.return_, 1) := by decide +kernel
theorem dJ0_length_8abf5_0 : decode cJ0_length_8abf5 0 = .ok (.aload_n 0, 1) := by decide +kernel
theorem dJ0_length_8abf5_1 : decode cJ0_length_8abf5 1 = .ok (.getfield 9, 3) := by decide +kernel
theorem dJ0_length_8abf5_4 : decode cJ0_length_8abf5 4 = .ok (.arraylength, 1) := by decide +kernel
theorem dJ0_length_8abf5_5 : decode cJ0_length_8abf5 5 = .ok (.aload_n 0, 1) := by decide +kernel
theorem dJ0_length_8abf5_6 : decode cJ0_length_8abf5 6 = .ok (.invokevirtual 335, 3) := by decide +kernel
theorem dJ0_length_8abf5_9 : decode cJ0_length_8abf5 9 = .ok (.ishr, 1) := by decide +kernel
theorem dJ0_length_8abf5_10 : decode cJ0_length_8abf5 10 = .ok (.ireturn, 1) := by decide +kernel
theorem dJ0_getBytes_840e7_0 : decode cJ0_getBytes_840e7 0 = .ok (.aload_n 0, 1) := by decide +kernel
theorem dJ0_getBytes_840e7_1 : decode cJ0_getBytes_840e7 1 = .ok (.invokevirtual 335, 3) := by decide +kernel
theorem dJ0_getBytes_840e7_4 : decode cJ0_getBytes_840e7 4 = .ok (.iload_n 3, 1) := by decide +kernel
theorem dJ0_getBytes_840e7_5 : decode cJ0_getBytes_840e7 5 = .ok (.if_icmp .ne 23, 3) := by decide +kernel
theorem dJ0_getBytes_840e7_8 : decode cJ0_getBytes_840e7 8 = .ok (.aload_n 0, 1) := by decide +kernel
theorem dJ0_getBytes_840e7_9 : decode cJ0_getBytes_840e7 9 = .ok (.getfield 9, 3) := by decide +kernel
theorem dJ0_getBytes_840e7_12 : decode cJ0_getBytes_840e7 12 = .ok (.iconst 0, 1) := by decide +kernel
theorem dJ0_getBytes_840e7_13 : decode cJ0_getBytes_840e7 13 = .ok (.aload_n 1, 1) := by decide +kernel
theorem dJ0_getBytes_840e7_14 : decode cJ0_getBytes_840e7 14 = .ok (.iload_n 2, 1) := by decide +kernel
theorem dJ0_getBytes_840e7_15 : decode cJ0_getBytes_840e7 15 = .ok (.iload_n 3, 1) := by decide +kernel
theorem dJ0_getBytes_840e7_16 : decode cJ0_getBytes_840e7 16 = .ok (.ishl, 1) := by decide +kernel
theorem dJ0_getBytes_840e7_17 : decode cJ0_getBytes_840e7 17 = .ok (.aload_n 0, 1) := by decide +kernel
theorem dJ0_getBytes_840e7_18 : decode cJ0_getBytes_840e7 18 = .ok (.getfield 9, 3) := by decide +kernel
theorem dJ0_getBytes_840e7_21 : decode cJ0_getBytes_840e7 21 = .ok (.arraylength, 1) := by decide +kernel
theorem dJ0_getBytes_840e7_22 : decode cJ0_getBytes_840e7 22 = .ok (.invokestatic 212, 3) := by decide +kernel
theorem dJ0_getBytes_840e7_25 : decode cJ0_getBytes_840e7 25 = .ok (.goto 18, 3) := by decide +kernel
theorem dJ0_getBytes_840e7_28 : decode cJ0_getBytes_840e7 28 = .ok (.aload_n 0, 1) := by decide +kernel
theorem dJ0_getBytes_840e7_29 : decode cJ0_getBytes_840e7 29 = .ok (.getfield 9, 3) := by decide +kernel
theorem dJ0_getBytes_840e7_32 : decode cJ0_getBytes_840e7 32 = .ok (.iconst 0, 1) := by decide +kernel
theorem dJ0_getBytes_840e7_33 : decode cJ0_getBytes_840e7 33 = .ok (.aload_n 1, 1) := by decide +kernel
theorem dJ0_getBytes_840e7_34 : decode cJ0_getBytes_840e7 34 = .ok (.iload_n 2, 1) := by decide +kernel
theorem dJ0_getBytes_840e7_35 : decode cJ0_getBytes_840e7 35 = .ok (.aload_n 0, 1) := by decide +kernel
theorem dJ0_getBytes_840e7_36 : decode cJ0_getBytes_840e7 36 = .ok (.getfield 9, 3) := by decide +kernel
theorem dJ0_getBytes_840e7_39 : decode cJ0_getBytes_840e7 39 = .ok (.arraylength, 1) := by decide +kernel
theorem dJ0_getBytes_840e7_40 : decode cJ0_getBytes_840e7 40 = .ok (.invokestatic 106, 3) := by decide +kernel
theorem dJ0_getBytes_840e7_43 : decode cJ0_getBytes_840e7 43 = .ok (.return_, 1) := by decide +kernel
theorem dJ0_init_db425_0 : decode cJ0_init_db425 0 = .ok (.aload_n 0, 1) := by decide +kernel
theorem dJ0_init_db425_1 : decode cJ0_init_db425 1 = .ok (.invokespecial 1, 3) := by decide +kernel
theorem dJ0_init_db425_4 : decode cJ0_init_db425 4 = .ok (.aload_n 1, 1) := by decide +kernel
theorem dJ0_init_db425_5 : decode cJ0_init_db425 5 = .ok (.invokevirtual 552, 3) := by decide +kernel
theorem dJ0_init_db425_8 : decode cJ0_init_db425 8 = .ok (.astore_n 3, 1) := by decide +kernel
theorem dJ0_init_db425_9 : decode cJ0_init_db425 9 = .ok (.aload_n 1, 1) := by decide +kernel
theorem dJ0_init_db425_10 : decode cJ0_init_db425 10 = .ok (.invokevirtual 549, 3) := by decide +kernel
theorem dJ0_init_db425_13 : decode cJ0_init_db425 13 = .ok (.istore 4, 2) := by decide +kernel
theorem dJ0_init_db425_15 : decode cJ0_init_db425 15 = .ok (.aload_n 1, 1) := by decide +kernel
theorem dJ0_init_db425_16 : decode cJ0_init_db425 16 = .ok (.invokevirtual 1047, 3) := by decide +kernel
theorem dJ0_init_db425_19 : decode cJ0_init_db425 19 = .ok (.ifCond .eq 22, 3) := by decide +kernel
theorem dJ0_init_db425_22 : decode cJ0_init_db425 22 = .ok (.aload_n 0, 1) := by decide +kernel
theorem dJ0_init_db425_23 : decode cJ0_init_db425 23 = .ok (.iconst 0, 1) := by decide +kernel
theorem dJ0_init_db425_24 : decode cJ0_init_db425 24 = .ok (.putfield 15, 3) := by decide +kernel
theorem dJ0_init_db425_27 : decode cJ0_init_db425 27 = .ok (.aload_n 0, 1) := by decide +kernel
theorem dJ0_init_db425_28 : decode cJ0_init_db425 28 = .ok (.aload_n 3, 1) := by decide +kernel
theorem dJ0_init_db425_29 : decode cJ0_init_db425 29 = .ok (.iconst 0, 1) := by decide +kernel
theorem dJ0_init_db425_30 : decode cJ0_init_db425 30 = .ok (.iload 4, 2) := by decide +kernel
theorem dJ0_init_db425_32 : decode cJ0_init_db425 32 = .ok (.invokestatic 54, 3) := by decide +kernel
theorem dJ0_init_db425_35 : decode cJ0_init_db425 35 = .ok (.putfield 9, 3) := by decide +kernel
theorem dJ0_init_db425_38 : decode cJ0_init_db425 38 = .ok (.goto 59, 3) := by decide +kernel
theorem dJ0_init_db425_41 : decode cJ0_init_db425 41 = .ok (.getstatic 38, 3) := by decide +kernel
theorem dJ0_init_db425_44 : decode cJ0_init_db425 44 = .ok (.ifCond .eq 35, 3) := by decide +kernel
theorem dJ0_init_db425_47 : decode cJ0_init_db425 47 = .ok (.aload_n 1, 1) := by decide +kernel
theorem dJ0_init_db425_48 : decode cJ0_init_db425 48 = .ok (.getfield 1048, 3) := by decide +kernel
theorem dJ0_init_db425_51 : decode cJ0_init_db425 51 = .ok (.ifCond .eq 28, 3) := by decide +kernel
theorem dJ0_init_db425_54 : decode cJ0_init_db425 54 = .ok (.aload_n 0, 1) := by decide +kernel
theorem dJ0_init_db425_55 : decode cJ0_init_db425 55 = .ok (.aload_n 3, 1) := by decide +kernel
theorem dJ0_init_db425_56 : decode cJ0_init_db425 56 = .ok (.iconst 0, 1) := by decide +kernel
theorem dJ0_init_db425_57 : decode cJ0_init_db425 57 = .ok (.iload 4, 2) := by decide +kernel
theorem dJ0_init_db425_59 : decode cJ0_init_db425 59 = .ok (.invokestatic 1051, 3) := by decide +kernel
theorem dJ0_init_db425_62 : decode cJ0_init_db425 62 = .ok (.putfield 9, 3) := by decide +kernel
theorem dJ0_init_db425_65 : decode cJ0_init_db425 65 = .ok (.aload_n 0, 1) := by decide +kernel
theorem dJ0_init_db425_66 : decode cJ0_init_db425 66 = .ok (.aload_n 0, 1) := by decide +kernel
theorem dJ0_init_db425_67 : decode cJ0_init_db425 67 = .ok (.getfield 9, 3) := by decide +kernel
theorem dJ0_init_db425_70 : decode cJ0_init_db425 70 = .ok (.iload 4, 2) := by decide +kernel
theorem dJ0_init_db425_72 : decode cJ0_init_db425 72 = .ok (.invokestatic 47, 3) := by decide +kernel
theorem dJ0_init_db425_75 : decode cJ0_init_db425 75 = .ok (.putfield 15, 3) := by decide +kernel
theorem dJ0_init_db425_78 : decode cJ0_init_db425 78 = .ok (.return_, 1) := by decide +kernel
theorem dJ0_init_db425_79 : decode cJ0_init_db425 79 = .ok (.aload_n 0, 1) := by decide +kernel
theorem dJ0_init_db425_80 : decode cJ0_init_db425 80 = .ok (.iconst 1, 1) := by decide +kernel
theorem dJ0_init_db425_81 : decode cJ0_init_db425 81 = .ok (.putfield 15, 3) := by decide +kernel
theorem dJ0_init_db425_84 : decode cJ0_init_db425 84 = .ok (.aload_n 0, 1) := by decide +kernel
theorem dJ0_init_db425_85 : decode cJ0_init_db425 85 = .ok (.aload_n 3, 1) := by decide +kernel
theorem dJ0_init_db425_86 : decode cJ0_init_db425 86 = .ok (.iconst 0, 1) := by decide +kernel
theorem dJ0_init_db425_87 : decode cJ0_init_db425 87 = .ok (.iload 4, 2) := by decide +kernel
theorem dJ0_init_db425_89 : decode cJ0_init_db425 89 = .ok (.iconst 1, 1) := by decide +kernel
theorem dJ0_init_db425_90 : decode cJ0_init_db425 90 = .ok (.ishl, 1) := by decide +kernel
theorem dJ0_init_db425_91 : decode cJ0_init_db425 91 = .ok (.invokestatic 54, 3) := by decide +kernel
theorem dJ0_init_db425_94 : decode cJ0_init_db425 94 = .ok (.putfield 9, 3) := by decide +kernel
theorem dJ0_init_db425_97 : decode cJ0_init_db425 97 = .ok (.return_, 1) := by decide +kernel
theorem dJ0_coder_7d493_0 : decode cJ0_coder_7d493 0 = .ok (.getstatic 38, 3) := by decide +kernel
theorem dJ0_coder_7d493_3 : decode cJ0_coder_7d493 3 = .ok (.ifCond .eq 10, 3) := by decide +kernel
theorem dJ0_coder_7d493_6 : decode cJ0_coder_7d493 6 = .ok (.aload_n 0, 1) := by decide +kernel
theorem dJ0_coder_7d493_7 : decode cJ0_coder_7d493 7 = .ok (.getfield 15, 3) := by decide +kernel
theorem dJ0_coder_7d493_10 : decode cJ0_coder_7d493 10 = .ok (.goto 4, 3) := by decide +kernel
theorem dJ0_coder_7d493_13 : decode cJ0_coder_7d493 13 = .ok (.iconst 1, 1) := by decide +kernel
theorem dJ0_coder_7d493_14 : decode cJ0_coder_7d493 14 = .ok (.ireturn, 1) := by decide +kernel
theorem dJ0_checkIndex_df160_0 : decode cJ0_checkIndex_df160 0 = .ok (.iload_n 0, 1) := by decide +kernel
theorem dJ0_checkIndex_df160_1 : decode cJ0_checkIndex_df160 1 = .ok (.iload_n 1, 1) := by decide +kernel
theorem dJ0_checkIndex_df160_2 : decode cJ0_checkIndex_df160 2 = .ok (.getstatic 1053, 3) := by decide +kernel
theorem dJ0_checkIndex_df160_5 : decode cJ0_checkIndex_df160 5 = .ok (.invokestatic 1059, 3) := by decide +kernel
theorem dJ0_checkIndex_df160_8 : decode cJ0_checkIndex_df160 8 = .ok (.pop, 1) := by decide +kernel
theorem dJ0_checkIndex_df160_9 : decode cJ0_checkIndex_df160 9 = .ok (.return_, 1) := by decide +kernel
theorem dJ0_checkBoundsOffCount_cabcc_0 : decode cJ0_checkBoundsOffCount_cabcc 0 = .ok (.iload_n 0, 1) := by decide +kernel
theorem dJ0_checkBoundsOffCount_cabcc_1 : decode cJ0_checkBoundsOffCount_cabcc 1 = .ok (.iload_n 1, 1) := by decide +kernel
theorem dJ0_checkBoundsOffCount_cabcc_2 : decode cJ0_checkBoundsOffCount_cabcc 2 = .ok (.iload_n 2, 1) := by decide +kernel
theorem dJ0_checkBoundsOffCount_cabcc_3 : decode cJ0_checkBoundsOffCount_cabcc 3 = .ok (.getstatic 1053, 3) := by decide +kernel
theorem dJ0_checkBoundsOffCount_cabcc_6 : decode cJ0_checkBoundsOffCount_cabcc 6 = .ok (.invokestatic 1065, 3) := by decide +kernel
theorem dJ0_checkBoundsOffCount_cabcc_9 : decode cJ0_checkBoundsOffCount_cabcc 9 = .ok (.ireturn, 1) := by decide +kernel
theorem dJ0_checkBoundsBeginEnd_23922_0 : decode cJ0_checkBoundsBeginEnd_23922 0 = .ok (.iload_n 0, 1) := by decide +kernel
theorem dJ0_checkBoundsBeginEnd_23922_1 : decode cJ0_checkBoundsBeginEnd_23922 1 = .ok (.iload_n 1, 1) := by decide +kernel
theorem dJ0_checkBoundsBeginEnd_23922_2 : decode cJ0_checkBoundsBeginEnd_23922 2 = .ok (.iload_n 2, 1) := by decide +kernel
theorem dJ0_checkBoundsBeginEnd_23922_3 : decode cJ0_checkBoundsBeginEnd_23922 3 = .ok (.getstatic 1053, 3) := by decide +kernel
theorem dJ0_checkBoundsBeginEnd_23922_6 : decode cJ0_checkBoundsBeginEnd_23922 6 = .ok (.invokestatic 1062, 3) := by decide +kernel
theorem dJ0_checkBoundsBeginEnd_23922_9 : decode cJ0_checkBoundsBeginEnd_23922 9 = .ok (.pop, 1) := by decide +kernel
theorem dJ0_checkBoundsBeginEnd_23922_10 : decode cJ0_checkBoundsBeginEnd_23922 10 = .ok (.return_, 1) := by decide +kernel
theorem dJ4_init_da8c8_0 : decode cJ4_init_da8c8 0 = .ok (.aload_n 0, 1) := by decide +kernel
theorem dJ4_init_da8c8_1 : decode cJ4_init_da8c8 1 = .ok (.bipush 16, 2) := by decide +kernel
theorem dJ4_init_da8c8_3 : decode cJ4_init_da8c8 3 = .ok (.invokespecial 1, 3) := by decide +kernel
theorem dJ4_init_da8c8_6 : decode cJ4_init_da8c8 6 = .ok (.return_, 1) := by decide +kernel
theorem dJ4_append_15ec4_0 : decode cJ4_append_15ec4 0 = .ok (.aload_n 0, 1) := by decide +kernel
theorem dJ4_append_15ec4_1 : decode cJ4_append_15ec4 1 = .ok (.aload_n 1, 1) := by decide +kernel
theorem dJ4_append_15ec4_2 : decode cJ4_append_15ec4 2 = .ok (.invokespecial 29, 3) := by decide +kernel
theorem dJ4_append_15ec4_5 : decode cJ4_append_15ec4 5 = .ok (.pop, 1) := by decide +kernel
theorem dJ4_append_15ec4_6 : decode cJ4_append_15ec4 6 = .ok (.aload_n 0, 1) := by decide +kernel
theorem dJ4_append_15ec4_7 : decode cJ4_append_15ec4 7 = .ok (.areturn, 1) := by decide +kernel
theorem dJ4_append_cf468_0 : decode cJ4_append_cf468 0 = .ok (.aload_n 0, 1) := by decide +kernel
theorem dJ4_append_cf468_1 : decode cJ4_append_cf468 1 = .ok (.iload_n 1, 1) := by decide +kernel
theorem dJ4_append_cf468_2 : decode cJ4_append_cf468 2 = .ok (.invokespecial 50, 3) := by decide +kernel
theorem dJ4_append_cf468_5 : decode cJ4_append_cf468 5 = .ok (.pop, 1) := by decide +kernel
theorem dJ4_append_cf468_6 : decode cJ4_append_cf468 6 = .ok (.aload_n 0, 1) := by decide +kernel
theorem dJ4_append_cf468_7 : decode cJ4_append_cf468 7 = .ok (.areturn, 1) := by decide +kernel
theorem dJ4_append_bf812_0 : decode cJ4_append_bf812 0 = .ok (.aload_n 0, 1) := by decide +kernel
theorem dJ4_append_bf812_1 : decode cJ4_append_bf812 1 = .ok (.iload_n 1, 1) := by decide +kernel
theorem dJ4_append_bf812_2 : decode cJ4_append_bf812 2 = .ok (.invokespecial 53, 3) := by decide +kernel
theorem dJ4_append_bf812_5 : decode cJ4_append_bf812 5 = .ok (.pop, 1) := by decide +kernel
theorem dJ4_append_bf812_6 : decode cJ4_append_bf812 6 = .ok (.aload_n 0, 1) := by decide +kernel
theorem dJ4_append_bf812_7 : decode cJ4_append_bf812 7 = .ok (.areturn, 1) := by decide +kernel
theorem dJ4_toString_0e30d_0 : decode cJ4_toString_0e30d 0 = .ok (.new 18, 3) := by decide +kernel
theorem dJ4_toString_0e30d_3 : decode cJ4_toString_0e30d 3 = .ok (.dup, 1) := by decide +kernel
theorem dJ4_toString_0e30d_4 : decode cJ4_toString_0e30d 4 = .ok (.aload_n 0, 1) := by decide +kernel
theorem dJ4_toString_0e30d_5 : decode cJ4_toString_0e30d 5 = .ok (.invokespecial 137, 3) := by decide +kernel
theorem dJ4_toString_0e30d_8 : decode cJ4_toString_0e30d 8 = .ok (.areturn, 1) := by decide +kernel
theorem dJ4_charAt_5068e_0 : decode cJ4_charAt_5068e 0 = .ok (.aload_n 0, 1) := by decide +kernel
theorem dJ4_charAt_5068e_1 : decode cJ4_charAt_5068e 1 = .ok (.iload_n 1, 1) := by decide +kernel
theorem dJ4_charAt_5068e_2 : decode cJ4_charAt_5068e 2 = .ok (.invokespecial 329, 3) := by decide +kernel
theorem dJ4_charAt_5068e_5 : decode cJ4_charAt_5068e 5 = .ok (.ireturn, 1) := by decide +kernel
theorem dJ4_setLength_d00df_0 : decode cJ4_setLength_d00df 0 = .ok (.aload_n 0, 1) := by decide +kernel
theorem dJ4_setLength_d00df_1 : decode cJ4_setLength_d00df 1 = .ok (.iload_n 1, 1) := by decide +kernel
theorem dJ4_setLength_d00df_2 : decode cJ4_setLength_d00df 2 = .ok (.invokespecial 333, 3) := by decide +kernel
theorem dJ4_setLength_d00df_5 : decode cJ4_setLength_d00df 5 = .ok (.return_, 1) := by decide +kernel
theorem dJ4_length_8abf5_0 : decode cJ4_length_8abf5 0 = .ok (.aload_n 0, 1) := by decide +kernel
theorem dJ4_length_8abf5_1 : decode cJ4_length_8abf5 1 = .ok (.invokespecial 343, 3) := by decide +kernel
theorem dJ4_length_8abf5_4 : decode cJ4_length_8abf5 4 = .ok (.ireturn, 1) := by decide +kernel
theorem dJx7c733_init_d00df_0 : decode cJx7c733_init_d00df 0 = .ok (.aload_n 0, 1) := by decide +kernel
theorem dJx7c733_init_d00df_1 : decode cJx7c733_init_d00df 1 = .ok (.new 10, 3) := by decide +kernel
theorem dJx7c733_init_d00df_4 : decode cJx7c733_init_d00df 4 = .ok (.dup, 1) := by decide +kernel
theorem dJx7c733_init_d00df_5 : decode cJx7c733_init_d00df 5 = .ok (.invokespecial 12, 3) := by decide +kernel
theorem dJx7c733_init_d00df_8 : decode cJx7c733_init_d00df 8 = .ok (.ldc 13, 2) := by decide +kernel
theorem dJx7c733_init_d00df_10 : decode cJx7c733_init_d00df 10 = .ok (.invokevirtual 15, 3) := by decide +kernel
theorem dJx7c733_init_d00df_13 : decode cJx7c733_init_d00df 13 = .ok (.iload_n 1, 1) := by decide +kernel
theorem dJx7c733_init_d00df_14 : decode cJx7c733_init_d00df 14 = .ok (.invokevirtual 19, 3) := by decide +kernel
theorem dJx7c733_init_d00df_17 : decode cJx7c733_init_d00df 17 = .ok (.invokevirtual 22, 3) := by decide +kernel
theorem dJx7c733_init_d00df_20 : decode cJx7c733_init_d00df 20 = .ok (.invokespecial 7, 3) := by decide +kernel
theorem dJx7c733_init_d00df_23 : decode cJx7c733_init_d00df 23 = .ok (.return_, 1) := by decide +kernel
theorem dJ1_canEncode_fc78d_0 : decode cJ1_canEncode_fc78d 0 = .ok (.iload_n 0, 1) := by decide +kernel
theorem dJ1_canEncode_fc78d_1 : decode cJ1_canEncode_fc78d 1 = .ok (.sipush 255, 3) := by decide +kernel
theorem dJ1_canEncode_fc78d_4 : decode cJ1_canEncode_fc78d 4 = .ok (.if_icmp .gt 7, 3) := by decide +kernel
theorem dJ1_canEncode_fc78d_7 : decode cJ1_canEncode_fc78d 7 = .ok (.iconst 1, 1) := by decide +kernel
theorem dJ1_canEncode_fc78d_8 : decode cJ1_canEncode_fc78d 8 = .ok (.goto 4, 3) := by decide +kernel
theorem dJ1_canEncode_fc78d_11 : decode cJ1_canEncode_fc78d 11 = .ok (.iconst 0, 1) := by decide +kernel
theorem dJ1_canEncode_fc78d_12 : decode cJ1_canEncode_fc78d 12 = .ok (.ireturn, 1) := by decide +kernel
theorem dJ1_fillNull_b72d1_0 : decode cJ1_fillNull_b72d1 0 = .ok (.aload_n 0, 1) := by decide +kernel
theorem dJ1_fillNull_b72d1_1 : decode cJ1_fillNull_b72d1 1 = .ok (.iload_n 1, 1) := by decide +kernel
theorem dJ1_fillNull_b72d1_2 : decode cJ1_fillNull_b72d1 2 = .ok (.iload_n 2, 1) := by decide +kernel
theorem dJ1_fillNull_b72d1_3 : decode cJ1_fillNull_b72d1 3 = .ok (.iconst 0, 1) := by decide +kernel
theorem dJ1_fillNull_b72d1_4 : decode cJ1_fillNull_b72d1 4 = .ok (.invokestatic 236, 3) := by decide +kernel
theorem dJ1_fillNull_b72d1_7 : decode cJ1_fillNull_b72d1 7 = .ok (.return_, 1) := by decide +kernel
theorem dJ1_inflate_0e8fd_0 : decode cJ1_inflate_0e8fd 0 = .ok (.aload_n 0, 1) := by decide +kernel
theorem dJ1_inflate_0e8fd_1 : decode cJ1_inflate_0e8fd 1 = .ok (.iload_n 1, 1) := by decide +kernel
theorem dJ1_inflate_0e8fd_2 : decode cJ1_inflate_0e8fd 2 = .ok (.aload_n 2, 1) := by decide +kernel
theorem dJ1_inflate_0e8fd_3 : decode cJ1_inflate_0e8fd 3 = .ok (.iload_n 3, 1) := by decide +kernel
theorem dJ1_inflate_0e8fd_4 : decode cJ1_inflate_0e8fd 4 = .ok (.iload 4, 2) := by decide +kernel
theorem dJ1_inflate_0e8fd_6 : decode cJ1_inflate_0e8fd 6 = .ok (.invokestatic 240, 3) := by decide +kernel
theorem dJ1_inflate_0e8fd_9 : decode cJ1_inflate_0e8fd 9 = .ok (.return_, 1) := by decide +kernel
theorem dJ2_newBytesFor_77867_0 : decode cJ2_newBytesFor_77867 0 = .ok (.iload_n 0, 1) := by decide +kernel
theorem dJ2_newBytesFor_77867_1 : decode cJ2_newBytesFor_77867 1 = .ok (.invokestatic 11, 3) := by decide +kernel
theorem dJ2_newBytesFor_77867_4 : decode cJ2_newBytesFor_77867 4 = .ok (.newarray .byte, 2) := by decide +kernel
theorem dJ2_newBytesFor_77867_6 : decode cJ2_newBytesFor_77867 6 = .ok (.areturn, 1) := by decide +kernel
theorem dJ2_newBytesLength_0f7a4_0 : decode cJ2_newBytesLength_0f7a4 0 = .ok (.iload_n 0, 1) := by decide +kernel
theorem dJ2_newBytesLength_0f7a4_1 : decode cJ2_newBytesLength_0f7a4 1 = .ok (.ifCond .ge 11, 3) := by decide +kernel
theorem dJ2_newBytesLength_0f7a4_4 : decode cJ2_newBytesLength_0f7a4 4 = .ok (.new 17, 3) := by decide +kernel
theorem dJ2_newBytesLength_0f7a4_7 : decode cJ2_newBytesLength_0f7a4 7 = .ok (.dup, 1) := by decide +kernel
theorem dJ2_newBytesLength_0f7a4_8 : decode cJ2_newBytesLength_0f7a4 8 = .ok (.invokespecial 19, 3) := by decide +kernel
theorem dJ2_newBytesLength_0f7a4_11 : decode cJ2_newBytesLength_0f7a4 11 = .ok (.athrow, 1) := by decide +kernel
theorem dJ2_newBytesLength_0f7a4_12 : decode cJ2_newBytesLength_0f7a4 12 = .ok (.iload_n 0, 1) := by decide +kernel
theorem dJ2_newBytesLength_0f7a4_13 : decode cJ2_newBytesLength_0f7a4 13 = .ok (.ldc 20, 2) := by decide +kernel
theorem dJ2_newBytesLength_0f7a4_15 : decode cJ2_newBytesLength_0f7a4 15 = .ok (.if_icmp .lt 40, 3) := by decide +kernel
theorem dJ2_newBytesLength_0f7a4_18 : decode cJ2_newBytesLength_0f7a4 18 = .ok (.new 21, 3) := by decide +kernel
theorem dJ2_newBytesLength_0f7a4_21 : decode cJ2_newBytesLength_0f7a4 21 = .ok (.dup, 1) := by decide +kernel
theorem dJ2_newBytesLength_0f7a4_22 : decode cJ2_newBytesLength_0f7a4 22 = .ok (.new 23, 3) := by decide +kernel
theorem dJ2_newBytesLength_0f7a4_25 : decode cJ2_newBytesLength_0f7a4 25 = .ok (.dup, 1) := by decide +kernel
theorem dJ2_newBytesLength_0f7a4_26 : decode cJ2_newBytesLength_0f7a4 26 = .ok (.invokespecial 25, 3) := by decide +kernel
theorem dJ2_newBytesLength_0f7a4_29 : decode cJ2_newBytesLength_0f7a4 29 = .ok (.ldc 26, 2) := by decide +kernel
theorem dJ2_newBytesLength_0f7a4_31 : decode cJ2_newBytesLength_0f7a4 31 = .ok (.invokevirtual 28, 3) := by decide +kernel
theorem dJ2_newBytesLength_0f7a4_34 : decode cJ2_newBytesLength_0f7a4 34 = .ok (.iload_n 0, 1) := by decide +kernel
theorem dJ2_newBytesLength_0f7a4_35 : decode cJ2_newBytesLength_0f7a4 35 = .ok (.invokevirtual 32, 3) := by decide +kernel
theorem dJ2_newBytesLength_0f7a4_38 : decode cJ2_newBytesLength_0f7a4 38 = .ok (.ldc 35, 2) := by decide +kernel
theorem dJ2_newBytesLength_0f7a4_40 : decode cJ2_newBytesLength_0f7a4 40 = .ok (.invokevirtual 28, 3) := by decide +kernel
theorem dJ2_newBytesLength_0f7a4_43 : decode cJ2_newBytesLength_0f7a4 43 = .ok (.ldc 20, 2) := by decide +kernel
theorem dJ2_newBytesLength_0f7a4_45 : decode cJ2_newBytesLength_0f7a4 45 = .ok (.invokevirtual 32, 3) := by decide +kernel
theorem dJ2_newBytesLength_0f7a4_48 : decode cJ2_newBytesLength_0f7a4 48 = .ok (.invokevirtual 37, 3) := by decide +kernel
theorem dJ2_newBytesLength_0f7a4_51 : decode cJ2_newBytesLength_0f7a4 51 = .ok (.invokespecial 41, 3) := by decide +kernel
theorem dJ2_newBytesLength_0f7a4_54 : decode cJ2_newBytesLength_0f7a4 54 = .ok (.athrow, 1) := by decide +kernel
theorem dJ2_newBytesLength_0f7a4_55 : decode cJ2_newBytesLength_0f7a4 55 = .ok (.iload_n 0, 1) := by decide +kernel
theorem dJ2_newBytesLength_0f7a4_56 : decode cJ2_newBytesLength_0f7a4 56 = .ok (.iconst 1, 1) := by decide +kernel
theorem dJ2_newBytesLength_0f7a4_57 : decode cJ2_newBytesLength_0f7a4 57 = .ok (.ishl, 1) := by decide +kernel
theorem dJ2_newBytesLength_0f7a4_58 : decode cJ2_newBytesLength_0f7a4 58 = .ok (.ireturn, 1) := by decide +kernel
theorem dJ2_putChar_b72d1_0 : decode cJ2_putChar_b72d1 0 = .ok (.getstatic 44, 3) := by decide +kernel
theorem dJ2_putChar_b72d1_3 : decode cJ2_putChar_b72d1 3 = .ok (.ifCond .ne 25, 3) := by decide +kernel
theorem dJ2_putChar_b72d1_6 : decode cJ2_putChar_b72d1 6 = .ok (.iload_n 1, 1) := by decide +kernel
theorem dJ2_putChar_b72d1_7 : decode cJ2_putChar_b72d1 7 = .ok (.ifCond .lt 11, 3) := by decide +kernel
theorem dJ2_putChar_b72d1_10 : decode cJ2_putChar_b72d1 10 = .ok (.iload_n 1, 1) := by decide +kernel
theorem dJ2_putChar_b72d1_11 : decode cJ2_putChar_b72d1 11 = .ok (.aload_n 0, 1) := by decide +kernel
theorem dJ2_putChar_b72d1_12 : decode cJ2_putChar_b72d1 12 = .ok (.invokestatic 48, 3) := by decide +kernel
theorem dJ2_putChar_b72d1_15 : decode cJ2_putChar_b72d1 15 = .ok (.if_icmp .lt 13, 3) := by decide +kernel
theorem dJ2_putChar_b72d1_18 : decode cJ2_putChar_b72d1 18 = .ok (.new 52, 3) := by decide +kernel
theorem dJ2_putChar_b72d1_21 : decode cJ2_putChar_b72d1 21 = .ok (.dup, 1) := by decide +kernel
theorem dJ2_putChar_b72d1_22 : decode cJ2_putChar_b72d1 22 = .ok (.ldc 54, 2) := by decide +kernel
theorem dJ2_putChar_b72d1_24 : decode cJ2_putChar_b72d1 24 = .ok (.invokespecial 56, 3) := by decide +kernel
theorem dJ2_putChar_b72d1_27 : decode cJ2_putChar_b72d1 27 = .ok (.athrow, 1) := by decide +kernel
theorem dJ2_putChar_b72d1_28 : decode cJ2_putChar_b72d1 28 = .ok (.iload_n 1, 1) := by decide +kernel
theorem dJ2_putChar_b72d1_29 : decode cJ2_putChar_b72d1 29 = .ok (.iconst 1, 1) := by decide +kernel
theorem dJ2_putChar_b72d1_30 : decode cJ2_putChar_b72d1 30 = .ok (.ishl, 1) := by decide +kernel
theorem dJ2_putChar_b72d1_31 : decode cJ2_putChar_b72d1 31 = .ok (.istore_n 1, 1) := by decide +kernel
theorem dJ2_putChar_b72d1_32 : decode cJ2_putChar_b72d1 32 = .ok (.aload_n 0, 1) := by decide +kernel
theorem dJ2_putChar_b72d1_33 : decode cJ2_putChar_b72d1 33 = .ok (.iload_n 1, 1) := by decide +kernel
theorem dJ2_putChar_b72d1_34 : decode cJ2_putChar_b72d1 34 = .ok (.iinc 1 1, 3) := by decide +kernel
theorem dJ2_putChar_b72d1_37 : decode cJ2_putChar_b72d1 37 = .ok (.iload_n 2, 1) := by decide +kernel
theorem dJ2_putChar_b72d1_38 : decode cJ2_putChar_b72d1 38 = .ok (.getstatic 59, 3) := by decide +kernel
theorem dJ2_putChar_b72d1_41 : decode cJ2_putChar_b72d1 41 = .ok (.ishr, 1) := by decide +kernel
theorem dJ2_putChar_b72d1_42 : decode cJ2_putChar_b72d1 42 = .ok (.i2b, 1) := by decide +kernel
theorem dJ2_putChar_b72d1_43 : decode cJ2_putChar_b72d1 43 = .ok (.bastore, 1) := by decide +kernel
theorem dJ2_putChar_b72d1_44 : decode cJ2_putChar_b72d1 44 = .ok (.aload_n 0, 1) := by decide +kernel
theorem dJ2_putChar_b72d1_45 : decode cJ2_putChar_b72d1 45 = .ok (.iload_n 1, 1) := by decide +kernel
theorem dJ2_putChar_b72d1_46 : decode cJ2_putChar_b72d1 46 = .ok (.iload_n 2, 1) := by decide +kernel
theorem dJ2_putChar_b72d1_47 : decode cJ2_putChar_b72d1 47 = .ok (.getstatic 63, 3) := by decide +kernel
theorem dJ2_putChar_b72d1_50 : decode cJ2_putChar_b72d1 50 = .ok (.ishr, 1) := by decide +kernel
theorem dJ2_putChar_b72d1_51 : decode cJ2_putChar_b72d1 51 = .ok (.i2b, 1) := by decide +kernel
theorem dJ2_putChar_b72d1_52 : decode cJ2_putChar_b72d1 52 = .ok (.bastore, 1) := by decide +kernel
theorem dJ2_putChar_b72d1_53 : decode cJ2_putChar_b72d1 53 = .ok (.return_, 1) := by decide +kernel
theorem dJ2_getChar_3b067_0 : decode cJ2_getChar_3b067 0 = .ok (.getstatic 44, 3) := by decide +kernel
theorem dJ2_getChar_3b067_3 : decode cJ2_getChar_3b067 3 = .ok (.ifCond .ne 25, 3) := by decide +kernel
theorem dJ2_getChar_3b067_6 : decode cJ2_getChar_3b067 6 = .ok (.iload_n 1, 1) := by decide +kernel
theorem dJ2_getChar_3b067_7 : decode cJ2_getChar_3b067 7 = .ok (.ifCond .lt 11, 3) := by decide +kernel
theorem dJ2_getChar_3b067_10 : decode cJ2_getChar_3b067 10 = .ok (.iload_n 1, 1) := by decide +kernel
theorem dJ2_getChar_3b067_11 : decode cJ2_getChar_3b067 11 = .ok (.aload_n 0, 1) := by decide +kernel
theorem dJ2_getChar_3b067_12 : decode cJ2_getChar_3b067 12 = .ok (.invokestatic 48, 3) := by decide +kernel
theorem dJ2_getChar_3b067_15 : decode cJ2_getChar_3b067 15 = .ok (.if_icmp .lt 13, 3) := by decide +kernel
theorem dJ2_getChar_3b067_18 : decode cJ2_getChar_3b067 18 = .ok (.new 52, 3) := by decide +kernel
theorem dJ2_getChar_3b067_21 : decode cJ2_getChar_3b067 21 = .ok (.dup, 1) := by decide +kernel
theorem dJ2_getChar_3b067_22 : decode cJ2_getChar_3b067 22 = .ok (.ldc 54, 2) := by decide +kernel
theorem dJ2_getChar_3b067_24 : decode cJ2_getChar_3b067 24 = .ok (.invokespecial 56, 3) := by decide +kernel
theorem dJ2_getChar_3b067_27 : decode cJ2_getChar_3b067 27 = .ok (.athrow, 1) := by decide +kernel
theorem dJ2_getChar_3b067_28 : decode cJ2_getChar_3b067 28 = .ok (.iload_n 1, 1) := by decide +kernel
theorem dJ2_getChar_3b067_29 : decode cJ2_getChar_3b067 29 = .ok (.iconst 1, 1) := by decide +kernel
theorem dJ2_getChar_3b067_30 : decode cJ2_getChar_3b067 30 = .ok (.ishl, 1) := by decide +kernel
theorem dJ2_getChar_3b067_31 : decode cJ2_getChar_3b067 31 = .ok (.istore_n 1, 1) := by decide +kernel
theorem dJ2_getChar_3b067_32 : decode cJ2_getChar_3b067 32 = .ok (.aload_n 0, 1) := by decide +kernel
theorem dJ2_getChar_3b067_33 : decode cJ2_getChar_3b067 33 = .ok (.iload_n 1, 1) := by decide +kernel
theorem dJ2_getChar_3b067_34 : decode cJ2_getChar_3b067 34 = .ok (.iinc 1 1, 3) := by decide +kernel
theorem dJ2_getChar_3b067_37 : decode cJ2_getChar_3b067 37 = .ok (.baload, 1) := by decide +kernel
theorem dJ2_getChar_3b067_38 : decode cJ2_getChar_3b067 38 = .ok (.sipush 255, 3) := by decide +kernel
theorem dJ2_getChar_3b067_41 : decode cJ2_getChar_3b067 41 = .ok (.iand, 1) := by decide +kernel
theorem dJ2_getChar_3b067_42 : decode cJ2_getChar_3b067 42 = .ok (.getstatic 59, 3) := by decide +kernel
theorem dJ2_getChar_3b067_45 : decode cJ2_getChar_3b067 45 = .ok (.ishl, 1) := by decide +kernel
theorem dJ2_getChar_3b067_46 : decode cJ2_getChar_3b067 46 = .ok (.aload_n 0, 1) := by decide +kernel
theorem dJ2_getChar_3b067_47 : decode cJ2_getChar_3b067 47 = .ok (.iload_n 1, 1) := by decide +kernel
theorem dJ2_getChar_3b067_48 : decode cJ2_getChar_3b067 48 = .ok (.baload, 1) := by decide +kernel
theorem dJ2_getChar_3b067_49 : decode cJ2_getChar_3b067 49 = .ok (.sipush 255, 3) := by decide +kernel
theorem dJ2_getChar_3b067_52 : decode cJ2_getChar_3b067 52 = .ok (.iand, 1) := by decide +kernel
theorem dJ2_getChar_3b067_53 : decode cJ2_getChar_3b067 53 = .ok (.getstatic 63, 3) := by decide +kernel
theorem dJ2_getChar_3b067_56 : decode cJ2_getChar_3b067 56 = .ok (.ishl, 1) := by decide +kernel
theorem dJ2_getChar_3b067_57 : decode cJ2_getChar_3b067 57 = .ok (.ior, 1) := by decide +kernel
theorem dJ2_getChar_3b067_58 : decode cJ2_getChar_3b067 58 = .ok (.i2c, 1) := by decide +kernel
theorem dJ2_getChar_3b067_59 : decode cJ2_getChar_3b067 59 = .ok (.ireturn, 1) := by decide +kernel
theorem dJ2_length_9d52b_0 : decode cJ2_length_9d52b 0 = .ok (.aload_n 0, 1) := by decide +kernel
theorem dJ2_length_9d52b_1 : decode cJ2_length_9d52b 1 = .ok (.arraylength, 1) := by decide +kernel
theorem dJ2_length_9d52b_2 : decode cJ2_length_9d52b 2 = .ok (.iconst 1, 1) := by decide +kernel
theorem dJ2_length_9d52b_3 : decode cJ2_length_9d52b 3 = .ok (.ishr, 1) := by decide +kernel
theorem dJ2_length_9d52b_4 : decode cJ2_length_9d52b 4 = .ok (.ireturn, 1) := by decide +kernel
theorem dJ2_coderFromArrayLen_85cad_0 : decode cJ2_coderFromArrayLen_85cad 0 = .ok (.iload_n 1, 1) := by decide +kernel
theorem dJ2_coderFromArrayLen_85cad_1 : decode cJ2_coderFromArrayLen_85cad 1 = .ok (.aload_n 0, 1) := by decide +kernel
theorem dJ2_coderFromArrayLen_85cad_2 : decode cJ2_coderFromArrayLen_85cad 2 = .ok (.arraylength, 1) := by decide +kernel
theorem dJ2_coderFromArrayLen_85cad_3 : decode cJ2_coderFromArrayLen_85cad 3 = .ok (.isub, 1) := by decide +kernel
theorem dJ2_coderFromArrayLen_85cad_4 : decode cJ2_coderFromArrayLen_85cad 4 = .ok (.bipush 31, 2) := by decide +kernel
theorem dJ2_coderFromArrayLen_85cad_6 : decode cJ2_coderFromArrayLen_85cad 6 = .ok (.iushr, 1) := by decide +kernel
theorem dJ2_coderFromArrayLen_85cad_7 : decode cJ2_coderFromArrayLen_85cad 7 = .ok (.i2b, 1) := by decide +kernel
theorem dJ2_coderFromArrayLen_85cad_8 : decode cJ2_coderFromArrayLen_85cad 8 = .ok (.ireturn, 1) := by decide +kernel
theorem dJ2_compress_39247_0 : decode cJ2_compress_39247 0 = .ok (.iload_n 2, 1) := by decide +kernel
theorem dJ2_compress_39247_1 : decode cJ2_compress_39247 1 = .ok (.newarray .byte, 2) := by decide +kernel
theorem dJ2_compress_39247_3 : decode cJ2_compress_39247 3 = .ok (.astore_n 3, 1) := by decide +kernel
theorem dJ2_compress_39247_4 : decode cJ2_compress_39247 4 = .ok (.aload_n 0, 1) := by decide +kernel
theorem dJ2_compress_39247_5 : decode cJ2_compress_39247 5 = .ok (.iload_n 1, 1) := by decide +kernel
theorem dJ2_compress_39247_6 : decode cJ2_compress_39247 6 = .ok (.aload_n 3, 1) := by decide +kernel
theorem dJ2_compress_39247_7 : decode cJ2_compress_39247 7 = .ok (.iconst 0, 1) := by decide +kernel
theorem dJ2_compress_39247_8 : decode cJ2_compress_39247 8 = .ok (.iload_n 2, 1) := by decide +kernel
theorem dJ2_compress_39247_9 : decode cJ2_compress_39247 9 = .ok (.invokestatic 123, 3) := by decide +kernel
theorem dJ2_compress_39247_12 : decode cJ2_compress_39247 12 = .ok (.istore 4, 2) := by decide +kernel
theorem dJ2_compress_39247_14 : decode cJ2_compress_39247 14 = .ok (.iload 4, 2) := by decide +kernel
theorem dJ2_compress_39247_16 : decode cJ2_compress_39247 16 = .ok (.iload_n 2, 1) := by decide +kernel
theorem dJ2_compress_39247_17 : decode cJ2_compress_39247 17 = .ok (.if_icmp .eq 47, 3) := by decide +kernel
theorem dJ2_compress_39247_20 : decode cJ2_compress_39247 20 = .ok (.aload_n 0, 1) := by decide +kernel
theorem dJ2_compress_39247_21 : decode cJ2_compress_39247 21 = .ok (.iload_n 1, 1) := by decide +kernel
theorem dJ2_compress_39247_22 : decode cJ2_compress_39247 22 = .ok (.iconst 1, 1) := by decide +kernel
theorem dJ2_compress_39247_23 : decode cJ2_compress_39247 23 = .ok (.ishl, 1) := by decide +kernel
theorem dJ2_compress_39247_24 : decode cJ2_compress_39247 24 = .ok (.iload_n 1, 1) := by decide +kernel
theorem dJ2_compress_39247_25 : decode cJ2_compress_39247 25 = .ok (.iload_n 2, 1) := by decide +kernel
theorem dJ2_compress_39247_26 : decode cJ2_compress_39247 26 = .ok (.iadd, 1) := by decide +kernel
theorem dJ2_compress_39247_27 : decode cJ2_compress_39247 27 = .ok (.invokestatic 11, 3) := by decide +kernel
theorem dJ2_compress_39247_30 : decode cJ2_compress_39247 30 = .ok (.invokestatic 126, 3) := by decide +kernel
theorem dJ2_compress_39247_33 : decode cJ2_compress_39247 33 = .ok (.astore 5, 2) := by decide +kernel
theorem dJ2_compress_39247_35 : decode cJ2_compress_39247 35 = .ok (.aload 5, 2) := by decide +kernel
theorem dJ2_compress_39247_37 : decode cJ2_compress_39247 37 = .ok (.iload 4, 2) := by decide +kernel
theorem dJ2_compress_39247_39 : decode cJ2_compress_39247 39 = .ok (.invokestatic 71, 3) := by decide +kernel
theorem dJ2_compress_39247_42 : decode cJ2_compress_39247 42 = .ok (.sipush 255, 3) := by decide +kernel
theorem dJ2_compress_39247_45 : decode cJ2_compress_39247 45 = .ok (.if_icmp .gt 16, 3) := by decide +kernel
theorem dJ2_compress_39247_48 : decode cJ2_compress_39247 48 = .ok (.aload 5, 2) := by decide +kernel
theorem dJ2_compress_39247_50 : decode cJ2_compress_39247 50 = .ok (.iconst 0, 1) := by decide +kernel
theorem dJ2_compress_39247_51 : decode cJ2_compress_39247 51 = .ok (.aload_n 3, 1) := by decide +kernel
theorem dJ2_compress_39247_52 : decode cJ2_compress_39247 52 = .ok (.iconst 0, 1) := by decide +kernel
theorem dJ2_compress_39247_53 : decode cJ2_compress_39247 53 = .ok (.iload_n 2, 1) := by decide +kernel
theorem dJ2_compress_39247_54 : decode cJ2_compress_39247 54 = .ok (.invokestatic 123, 3) := by decide +kernel
theorem dJ2_compress_39247_57 : decode cJ2_compress_39247 57 = .ok (.iload_n 2, 1) := by decide +kernel
theorem dJ2_compress_39247_58 : decode cJ2_compress_39247 58 = .ok (.if_icmp .eq 6, 3) := by decide +kernel
theorem dJ2_compress_39247_61 : decode cJ2_compress_39247 61 = .ok (.aload 5, 2) := by decide +kernel
theorem dJ2_compress_39247_63 : decode cJ2_compress_39247 63 = .ok (.areturn, 1) := by decide +kernel
theorem dJ2_compress_39247_64 : decode cJ2_compress_39247 64 = .ok (.aload_n 3, 1) := by decide +kernel
theorem dJ2_compress_39247_65 : decode cJ2_compress_39247 65 = .ok (.areturn, 1) := by decide +kernel
theorem dJ2_compress_5af95_0 : decode cJ2_compress_5af95 0 = .ok (.iload_n 1, 1) := by decide +kernel
theorem dJ2_compress_5af95_1 : decode cJ2_compress_5af95 1 = .ok (.iload 4, 2) := by decide +kernel
theorem dJ2_compress_5af95_3 : decode cJ2_compress_5af95 3 = .ok (.aload_n 0, 1) := by decide +kernel
theorem dJ2_compress_5af95_4 : decode cJ2_compress_5af95 4 = .ok (.invokestatic 173, 3) := by decide +kernel
theorem dJ2_compress_5af95_7 : decode cJ2_compress_5af95 7 = .ok (.iconst 0, 1) := by decide +kernel
theorem dJ2_compress_5af95_8 : decode cJ2_compress_5af95 8 = .ok (.istore 5, 2) := by decide +kernel
theorem dJ2_compress_5af95_10 : decode cJ2_compress_5af95 10 = .ok (.iload 5, 2) := by decide +kernel
theorem dJ2_compress_5af95_12 : decode cJ2_compress_5af95 12 = .ok (.iload 4, 2) := by decide +kernel
theorem dJ2_compress_5af95_14 : decode cJ2_compress_5af95 14 = .ok (.if_icmp .ge 39, 3) := by decide +kernel
theorem dJ2_compress_5af95_17 : decode cJ2_compress_5af95 17 = .ok (.aload_n 0, 1) := by decide +kernel
theorem dJ2_compress_5af95_18 : decode cJ2_compress_5af95 18 = .ok (.iload_n 1, 1) := by decide +kernel
theorem dJ2_compress_5af95_19 : decode cJ2_compress_5af95 19 = .ok (.invokestatic 71, 3) := by decide +kernel
theorem dJ2_compress_5af95_22 : decode cJ2_compress_5af95 22 = .ok (.istore 6, 2) := by decide +kernel
theorem dJ2_compress_5af95_24 : decode cJ2_compress_5af95 24 = .ok (.iload 6, 2) := by decide +kernel
theorem dJ2_compress_5af95_26 : decode cJ2_compress_5af95 26 = .ok (.sipush 255, 3) := by decide +kernel
theorem dJ2_compress_5af95_29 : decode cJ2_compress_5af95 29 = .ok (.if_icmp .le 6, 3) := by decide +kernel
theorem dJ2_compress_5af95_32 : decode cJ2_compress_5af95 32 = .ok (.iload 5, 2) := by decide +kernel
theorem dJ2_compress_5af95_34 : decode cJ2_compress_5af95 34 = .ok (.ireturn, 1) := by decide +kernel
theorem dJ2_compress_5af95_35 : decode cJ2_compress_5af95 35 = .ok (.aload_n 2, 1) := by decide +kernel
theorem dJ2_compress_5af95_36 : decode cJ2_compress_5af95 36 = .ok (.iload_n 3, 1) := by decide +kernel
theorem dJ2_compress_5af95_37 : decode cJ2_compress_5af95 37 = .ok (.iload 6, 2) := by decide +kernel
theorem dJ2_compress_5af95_39 : decode cJ2_compress_5af95 39 = .ok (.i2b, 1) := by decide +kernel
theorem dJ2_compress_5af95_40 : decode cJ2_compress_5af95 40 = .ok (.bastore, 1) := by decide +kernel
theorem dJ2_compress_5af95_41 : decode cJ2_compress_5af95 41 = .ok (.iinc 1 1, 3) := by decide +kernel
theorem dJ2_compress_5af95_44 : decode cJ2_compress_5af95 44 = .ok (.iinc 3 1, 3) := by decide +kernel
theorem dJ2_compress_5af95_47 : decode cJ2_compress_5af95 47 = .ok (.iinc 5 1, 3) := by decide +kernel
theorem dJ2_compress_5af95_50 : decode cJ2_compress_5af95 50 = .ok (.goto (-40), 3) := by decide +kernel
theorem dJ2_compress_5af95_53 : decode cJ2_compress_5af95 53 = .ok (.iload 4, 2) := by decide +kernel
theorem dJ2_compress_5af95_55 : decode cJ2_compress_5af95 55 = .ok (.ireturn, 1) := by decide +kernel
theorem dJ2_fillNull_b72d1_0 : decode cJ2_fillNull_b72d1 0 = .ok (.aload_n 0, 1) := by decide +kernel
theorem dJ2_fillNull_b72d1_1 : decode cJ2_fillNull_b72d1 1 = .ok (.iload_n 1, 1) := by decide +kernel
theorem dJ2_fillNull_b72d1_2 : decode cJ2_fillNull_b72d1 2 = .ok (.iconst 1, 1) := by decide +kernel
theorem dJ2_fillNull_b72d1_3 : decode cJ2_fillNull_b72d1 3 = .ok (.ishl, 1) := by decide +kernel
theorem dJ2_fillNull_b72d1_4 : decode cJ2_fillNull_b72d1 4 = .ok (.iload_n 2, 1) := by decide +kernel
theorem dJ2_fillNull_b72d1_5 : decode cJ2_fillNull_b72d1 5 = .ok (.iconst 1, 1) := by decide +kernel
theorem dJ2_fillNull_b72d1_6 : decode cJ2_fillNull_b72d1 6 = .ok (.ishl, 1) := by decide +kernel
theorem dJ2_fillNull_b72d1_7 : decode cJ2_fillNull_b72d1 7 = .ok (.iconst 0, 1) := by decide +kernel
theorem dJ2_fillNull_b72d1_8 : decode cJ2_fillNull_b72d1 8 = .ok (.invokestatic 380, 3) := by decide +kernel
theorem dJ2_fillNull_b72d1_11 : decode cJ2_fillNull_b72d1 11 = .ok (.return_, 1) := by decide +kernel
theorem dJ2_putCharSB_b72d1_0 : decode cJ2_putCharSB_b72d1 0 = .ok (.iload_n 1, 1) := by decide +kernel
theorem dJ2_putCharSB_b72d1_1 : decode cJ2_putCharSB_b72d1 1 = .ok (.aload_n 0, 1) := by decide +kernel
theorem dJ2_putCharSB_b72d1_2 : decode cJ2_putCharSB_b72d1 2 = .ok (.invokestatic 67, 3) := by decide +kernel
theorem dJ2_putCharSB_b72d1_5 : decode cJ2_putCharSB_b72d1 5 = .ok (.aload_n 0, 1) := by decide +kernel
theorem dJ2_putCharSB_b72d1_6 : decode cJ2_putCharSB_b72d1 6 = .ok (.iload_n 1, 1) := by decide +kernel
theorem dJ2_putCharSB_b72d1_7 : decode cJ2_putCharSB_b72d1 7 = .ok (.iload_n 2, 1) := by decide +kernel
theorem dJ2_putCharSB_b72d1_8 : decode cJ2_putCharSB_b72d1 8 = .ok (.invokestatic 111, 3) := by decide +kernel
theorem dJ2_putCharSB_b72d1_11 : decode cJ2_putCharSB_b72d1 11 = .ok (.return_, 1) := by decide +kernel
theorem dJ2_getChars_46870_0 : decode cJ2_getChars_46870 0 = .ok (.iload_n 1, 1) := by decide +kernel
theorem dJ2_getChars_46870_1 : decode cJ2_getChars_46870 1 = .ok (.iload_n 2, 1) := by decide +kernel
theorem dJ2_getChars_46870_2 : decode cJ2_getChars_46870 2 = .ok (.aload_n 3, 1) := by decide +kernel
theorem dJ2_getChars_46870_3 : decode cJ2_getChars_46870 3 = .ok (.invokestatic 96, 3) := by decide +kernel
theorem dJ2_getChars_46870_6 : decode cJ2_getChars_46870 6 = .ok (.iload_n 0, 1) := by decide +kernel
theorem dJ2_getChars_46870_7 : decode cJ2_getChars_46870 7 = .ok (.iload_n 2, 1) := by decide +kernel
theorem dJ2_getChars_46870_8 : decode cJ2_getChars_46870 8 = .ok (.aload_n 3, 1) := by decide +kernel
theorem dJ2_getChars_46870_9 : decode cJ2_getChars_46870 9 = .ok (.invokestatic 393, 3) := by decide +kernel
theorem dJ2_getChars_46870_12 : decode cJ2_getChars_46870 12 = .ok (.istore 4, 2) := by decide +kernel
theorem dJ2_getChars_46870_14 : decode cJ2_getChars_46870 14 = .ok (.getstatic 44, 3) := by decide +kernel
theorem dJ2_getChars_46870_17 : decode cJ2_getChars_46870 17 = .ok (.ifCond .ne 17, 3) := by decide +kernel
theorem dJ2_getChars_46870_20 : decode cJ2_getChars_46870 20 = .ok (.iload_n 1, 1) := by decide +kernel
theorem dJ2_getChars_46870_21 : decode cJ2_getChars_46870 21 = .ok (.iload 4, 2) := by decide +kernel
theorem dJ2_getChars_46870_23 : decode cJ2_getChars_46870 23 = .ok (.if_icmp .eq 11, 3) := by decide +kernel
theorem dJ2_getChars_46870_26 : decode cJ2_getChars_46870 26 = .ok (.new 52, 3) := by decide +kernel
theorem dJ2_getChars_46870_29 : decode cJ2_getChars_46870 29 = .ok (.dup, 1) := by decide +kernel
theorem dJ2_getChars_46870_30 : decode cJ2_getChars_46870 30 = .ok (.invokespecial 66, 3) := by decide +kernel
theorem dJ2_getChars_46870_33 : decode cJ2_getChars_46870 33 = .ok (.athrow, 1) := by decide +kernel
theorem dJ2_getChars_46870_34 : decode cJ2_getChars_46870 34 = .ok (.iload 4, 2) := by decide +kernel
theorem dJ2_getChars_46870_36 : decode cJ2_getChars_46870 36 = .ok (.ireturn, 1) := by decide +kernel
theorem dJ2_putCharsAt_cd4e5_0 : decode cJ2_putCharsAt_cd4e5 0 = .ok (.iload_n 1, 1) := by decide +kernel
theorem dJ2_putCharsAt_cd4e5_1 : decode cJ2_putCharsAt_cd4e5 1 = .ok (.iconst 4, 1) := by decide +kernel
theorem dJ2_putCharsAt_cd4e5_2 : decode cJ2_putCharsAt_cd4e5 2 = .ok (.iadd, 1) := by decide +kernel
theorem dJ2_putCharsAt_cd4e5_3 : decode cJ2_putCharsAt_cd4e5 3 = .ok (.istore 6, 2) := by decide +kernel
theorem dJ2_putCharsAt_cd4e5_5 : decode cJ2_putCharsAt_cd4e5 5 = .ok (.iload_n 1, 1) := by decide +kernel
theorem dJ2_putCharsAt_cd4e5_6 : decode cJ2_putCharsAt_cd4e5 6 = .ok (.iload 6, 2) := by decide +kernel
theorem dJ2_putCharsAt_cd4e5_8 : decode cJ2_putCharsAt_cd4e5 8 = .ok (.aload_n 0, 1) := by decide +kernel
theorem dJ2_putCharsAt_cd4e5_9 : decode cJ2_putCharsAt_cd4e5 9 = .ok (.invokestatic 96, 3) := by decide +kernel
theorem dJ2_putCharsAt_cd4e5_12 : decode cJ2_putCharsAt_cd4e5 12 = .ok (.aload_n 0, 1) := by decide +kernel
theorem dJ2_putCharsAt_cd4e5_13 : decode cJ2_putCharsAt_cd4e5 13 = .ok (.iload_n 1, 1) := by decide +kernel
theorem dJ2_putCharsAt_cd4e5_14 : decode cJ2_putCharsAt_cd4e5 14 = .ok (.iinc 1 1, 3) := by decide +kernel
theorem dJ2_putCharsAt_cd4e5_17 : decode cJ2_putCharsAt_cd4e5 17 = .ok (.iload_n 2, 1) := by decide +kernel
theorem dJ2_putCharsAt_cd4e5_18 : decode cJ2_putCharsAt_cd4e5 18 = .ok (.invokestatic 111, 3) := by decide +kernel
theorem dJ2_putCharsAt_cd4e5_21 : decode cJ2_putCharsAt_cd4e5 21 = .ok (.aload_n 0, 1) := by decide +kernel
theorem dJ2_putCharsAt_cd4e5_22 : decode cJ2_putCharsAt_cd4e5 22 = .ok (.iload_n 1, 1) := by decide +kernel
theorem dJ2_putCharsAt_cd4e5_23 : decode cJ2_putCharsAt_cd4e5 23 = .ok (.iinc 1 1, 3) := by decide +kernel
theorem dJ2_putCharsAt_cd4e5_26 : decode cJ2_putCharsAt_cd4e5 26 = .ok (.iload_n 3, 1) := by decide +kernel
theorem dJ2_putCharsAt_cd4e5_27 : decode cJ2_putCharsAt_cd4e5 27 = .ok (.invokestatic 111, 3) := by decide +kernel
theorem dJ2_putCharsAt_cd4e5_30 : decode cJ2_putCharsAt_cd4e5 30 = .ok (.aload_n 0, 1) := by decide +kernel
theorem dJ2_putCharsAt_cd4e5_31 : decode cJ2_putCharsAt_cd4e5 31 = .ok (.iload_n 1, 1) := by decide +kernel
theorem dJ2_putCharsAt_cd4e5_32 : decode cJ2_putCharsAt_cd4e5 32 = .ok (.iinc 1 1, 3) := by decide +kernel
theorem dJ2_putCharsAt_cd4e5_35 : decode cJ2_putCharsAt_cd4e5 35 = .ok (.iload 4, 2) := by decide +kernel
theorem dJ2_putCharsAt_cd4e5_37 : decode cJ2_putCharsAt_cd4e5 37 = .ok (.invokestatic 111, 3) := by decide +kernel
theorem dJ2_putCharsAt_cd4e5_40 : decode cJ2_putCharsAt_cd4e5 40 = .ok (.aload_n 0, 1) := by decide +kernel
theorem dJ2_putCharsAt_cd4e5_41 : decode cJ2_putCharsAt_cd4e5 41 = .ok (.iload_n 1, 1) := by decide +kernel
theorem dJ2_putCharsAt_cd4e5_42 : decode cJ2_putCharsAt_cd4e5 42 = .ok (.iinc 1 1, 3) := by decide +kernel
theorem dJ2_putCharsAt_cd4e5_45 : decode cJ2_putCharsAt_cd4e5 45 = .ok (.iload 5, 2) := by decide +kernel
theorem dJ2_putCharsAt_cd4e5_47 : decode cJ2_putCharsAt_cd4e5 47 = .ok (.invokestatic 111, 3) := by decide +kernel
theorem dJ2_putCharsAt_cd4e5_50 : decode cJ2_putCharsAt_cd4e5 50 = .ok (.getstatic 44, 3) := by decide +kernel
theorem dJ2_putCharsAt_cd4e5_53 : decode cJ2_putCharsAt_cd4e5 53 = .ok (.ifCond .ne 17, 3) := by decide +kernel
theorem dJ2_putCharsAt_cd4e5_56 : decode cJ2_putCharsAt_cd4e5 56 = .ok (.iload_n 1, 1) := by decide +kernel
theorem dJ2_putCharsAt_cd4e5_57 : decode cJ2_putCharsAt_cd4e5 57 = .ok (.iload 6, 2) := by decide +kernel
theorem dJ2_putCharsAt_cd4e5_59 : decode cJ2_putCharsAt_cd4e5 59 = .ok (.if_icmp .eq 11, 3) := by decide +kernel
theorem dJ2_putCharsAt_cd4e5_62 : decode cJ2_putCharsAt_cd4e5 62 = .ok (.new 52, 3) := by decide +kernel
theorem dJ2_putCharsAt_cd4e5_65 : decode cJ2_putCharsAt_cd4e5 65 = .ok (.dup, 1) := by decide +kernel
theorem dJ2_putCharsAt_cd4e5_66 : decode cJ2_putCharsAt_cd4e5 66 = .ok (.invokespecial 66, 3) := by decide +kernel
theorem dJ2_putCharsAt_cd4e5_69 : decode cJ2_putCharsAt_cd4e5 69 = .ok (.athrow, 1) := by decide +kernel
theorem dJ2_putCharsAt_cd4e5_70 : decode cJ2_putCharsAt_cd4e5 70 = .ok (.iload 6, 2) := by decide +kernel
theorem dJ2_putCharsAt_cd4e5_72 : decode cJ2_putCharsAt_cd4e5 72 = .ok (.ireturn, 1) := by decide +kernel
theorem dJ2_inflate_0e8fd_0 : decode cJ2_inflate_0e8fd 0 = .ok (.iload_n 3, 1) := by decide +kernel
theorem dJ2_inflate_0e8fd_1 : decode cJ2_inflate_0e8fd 1 = .ok (.iload 4, 2) := by decide +kernel
theorem dJ2_inflate_0e8fd_3 : decode cJ2_inflate_0e8fd 3 = .ok (.aload_n 2, 1) := by decide +kernel
theorem dJ2_inflate_0e8fd_4 : decode cJ2_inflate_0e8fd 4 = .ok (.invokestatic 173, 3) := by decide +kernel
theorem dJ2_inflate_0e8fd_7 : decode cJ2_inflate_0e8fd 7 = .ok (.iconst 0, 1) := by decide +kernel
theorem dJ2_inflate_0e8fd_8 : decode cJ2_inflate_0e8fd 8 = .ok (.istore 5, 2) := by decide +kernel
theorem dJ2_inflate_0e8fd_10 : decode cJ2_inflate_0e8fd 10 = .ok (.iload 5, 2) := by decide +kernel
theorem dJ2_inflate_0e8fd_12 : decode cJ2_inflate_0e8fd 12 = .ok (.iload 4, 2) := by decide +kernel
theorem dJ2_inflate_0e8fd_14 : decode cJ2_inflate_0e8fd 14 = .ok (.if_icmp .ge 27, 3) := by decide +kernel
theorem dJ2_inflate_0e8fd_17 : decode cJ2_inflate_0e8fd 17 = .ok (.aload_n 2, 1) := by decide +kernel
theorem dJ2_inflate_0e8fd_18 : decode cJ2_inflate_0e8fd 18 = .ok (.iload_n 3, 1) := by decide +kernel
theorem dJ2_inflate_0e8fd_19 : decode cJ2_inflate_0e8fd 19 = .ok (.iinc 3 1, 3) := by decide +kernel
theorem dJ2_inflate_0e8fd_22 : decode cJ2_inflate_0e8fd 22 = .ok (.aload_n 0, 1) := by decide +kernel
theorem dJ2_inflate_0e8fd_23 : decode cJ2_inflate_0e8fd 23 = .ok (.iload_n 1, 1) := by decide +kernel
theorem dJ2_inflate_0e8fd_24 : decode cJ2_inflate_0e8fd 24 = .ok (.iinc 1 1, 3) := by decide +kernel
theorem dJ2_inflate_0e8fd_27 : decode cJ2_inflate_0e8fd 27 = .ok (.baload, 1) := by decide +kernel
theorem dJ2_inflate_0e8fd_28 : decode cJ2_inflate_0e8fd 28 = .ok (.sipush 255, 3) := by decide +kernel
theorem dJ2_inflate_0e8fd_31 : decode cJ2_inflate_0e8fd 31 = .ok (.iand, 1) := by decide +kernel
theorem dJ2_inflate_0e8fd_32 : decode cJ2_inflate_0e8fd 32 = .ok (.invokestatic 111, 3) := by decide +kernel
theorem dJ2_inflate_0e8fd_35 : decode cJ2_inflate_0e8fd 35 = .ok (.iinc 5 1, 3) := by decide +kernel
theorem dJ2_inflate_0e8fd_38 : decode cJ2_inflate_0e8fd 38 = .ok (.goto (-28), 3) := by decide +kernel
theorem dJ2_inflate_0e8fd_41 : decode cJ2_inflate_0e8fd 41 = .ok (.return_, 1) := by decide +kernel
theorem dJ2_getChars_ba4f3_0 : decode cJ2_getChars_ba4f3 0 = .ok (.iload_n 1, 1) := by decide +kernel
theorem dJ2_getChars_ba4f3_1 : decode cJ2_getChars_ba4f3 1 = .ok (.istore 5, 2) := by decide +kernel
theorem dJ2_getChars_ba4f3_3 : decode cJ2_getChars_ba4f3 3 = .ok (.iload_n 0, 1) := by decide +kernel
