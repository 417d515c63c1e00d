theorem d_M_compare_0 : decode b_M_compare 0 = .ok (.iload_n 0, 1) := by decide +kernel
theorem d_M_compare_1 : decode b_M_compare 1 = .ok (.bipush 70, 2) := by decide +kernel
theorem d_M_compare_3 : decode b_M_compare 3 = .ok (.if_icmp .ne 14, 3) := by decide +kernel
theorem d_M_compare_6 : decode b_M_compare 6 = .ok (.iload_n 1, 1) := by decide +kernel
theorem d_M_compare_7 : decode b_M_compare 7 = .ok (.iload_n 2, 1) := by decide +kernel
theorem d_M_compare_8 : decode b_M_compare 8 = .ok (.if_icmp .ne 7, 3) := by decide +kernel
theorem d_M_compare_11 : decode b_M_compare 11 = .ok (.iconst 1, 1) := by decide +kernel
theorem d_M_compare_12 : decode b_M_compare 12 = .ok (.goto 4, 3) := by decide +kernel
theorem d_M_compare_15 : decode b_M_compare 15 = .ok (.iconst 0, 1) := by decide +kernel
theorem d_M_compare_16 : decode b_M_compare 16 = .ok (.ireturn, 1) := by decide +kernel
theorem d_M_compare_17 : decode b_M_compare 17 = .ok (.iload_n 0, 1) := by decide +kernel
theorem d_M_compare_18 : decode b_M_compare 18 = .ok (.bipush 71, 2) := by decide +kernel
theorem d_M_compare_20 : decode b_M_compare 20 = .ok (.if_icmp .ne 14, 3) := by decide +kernel
theorem d_M_compare_23 : decode b_M_compare 23 = .ok (.iload_n 1, 1) := by decide +kernel
theorem d_M_compare_24 : decode b_M_compare 24 = .ok (.iload_n 2, 1) := by decide +kernel
theorem d_M_compare_25 : decode b_M_compare 25 = .ok (.if_icmp .eq 7, 3) := by decide +kernel
theorem d_M_compare_28 : decode b_M_compare 28 = .ok (.iconst 1, 1) := by decide +kernel
theorem d_M_compare_29 : decode b_M_compare 29 = .ok (.goto 4, 3) := by decide +kernel
theorem d_M_compare_32 : decode b_M_compare 32 = .ok (.iconst 0, 1) := by decide +kernel
theorem d_M_compare_33 : decode b_M_compare 33 = .ok (.ireturn, 1) := by decide +kernel
theorem d_M_compare_34 : decode b_M_compare 34 = .ok (.iload_n 0, 1) := by decide +kernel
theorem d_M_compare_35 : decode b_M_compare 35 = .ok (.iconst 2, 1) := by decide +kernel
theorem d_M_compare_36 : decode b_M_compare 36 = .ok (.irem, 1) := by decide +kernel
theorem d_M_compare_37 : decode b_M_compare 37 = .ok (.ifCond .ne 8, 3) := by decide +kernel
theorem d_M_compare_40 : decode b_M_compare 40 = .ok (.iload_n 1, 1) := by decide +kernel
theorem d_M_compare_41 : decode b_M_compare 41 = .ok (.i2l, 1) := by decide +kernel
theorem d_M_compare_42 : decode b_M_compare 42 = .ok (.goto 9, 3) := by decide +kernel
theorem d_M_compare_45 : decode b_M_compare 45 = .ok (.iload_n 1, 1) := by decide +kernel
theorem d_M_compare_46 : decode b_M_compare 46 = .ok (.i2l, 1) := by decide +kernel
theorem d_M_compare_47 : decode b_M_compare 47 = .ok (.ldc2_w 282, 3) := by decide +kernel
theorem d_M_compare_50 : decode b_M_compare 50 = .ok (.land, 1) := by decide +kernel
theorem d_M_compare_51 : decode b_M_compare 51 = .ok (.lstore_n 3, 1) := by decide +kernel
theorem d_M_compare_52 : decode b_M_compare 52 = .ok (.iload_n 0, 1) := by decide +kernel
theorem d_M_compare_53 : decode b_M_compare 53 = .ok (.iconst 2, 1) := by decide +kernel
theorem d_M_compare_54 : decode b_M_compare 54 = .ok (.irem, 1) := by decide +kernel
theorem d_M_compare_55 : decode b_M_compare 55 = .ok (.ifCond .ne 8, 3) := by decide +kernel
theorem d_M_compare_58 : decode b_M_compare 58 = .ok (.iload_n 2, 1) := by decide +kernel
theorem d_M_compare_59 : decode b_M_compare 59 = .ok (.i2l, 1) := by decide +kernel
theorem d_M_compare_60 : decode b_M_compare 60 = .ok (.goto 9, 3) := by decide +kernel
theorem d_M_compare_63 : decode b_M_compare 63 = .ok (.iload_n 2, 1) := by decide +kernel
theorem d_M_compare_64 : decode b_M_compare 64 = .ok (.i2l, 1) := by decide +kernel
theorem d_M_compare_65 : decode b_M_compare 65 = .ok (.ldc2_w 282, 3) := by decide +kernel
theorem d_M_compare_68 : decode b_M_compare 68 = .ok (.land, 1) := by decide +kernel
theorem d_M_compare_69 : decode b_M_compare 69 = .ok (.lstore 5, 2) := by decide +kernel
theorem d_M_compare_71 : decode b_M_compare 71 = .ok (.iload_n 0, 1) := by decide +kernel
theorem d_M_compare_72 : decode b_M_compare 72 = .ok (.bipush 74, 2) := by decide +kernel
theorem d_M_compare_74 : decode b_M_compare 74 = .ok (.if_icmp .ge 18, 3) := by decide +kernel
theorem d_M_compare_77 : decode b_M_compare 77 = .ok (.lload_n 3, 1) := by decide +kernel
theorem d_M_compare_78 : decode b_M_compare 78 = .ok (.lload 5, 2) := by decide +kernel
theorem d_M_compare_80 : decode b_M_compare 80 = .ok (.lcmp, 1) := by decide +kernel
theorem d_M_compare_81 : decode b_M_compare 81 = .ok (.ifCond .ge 7, 3) := by decide +kernel
theorem d_M_compare_84 : decode b_M_compare 84 = .ok (.iconst 1, 1) := by decide +kernel
theorem d_M_compare_85 : decode b_M_compare 85 = .ok (.goto 61, 3) := by decide +kernel
theorem d_M_compare_88 : decode b_M_compare 88 = .ok (.iconst 0, 1) := by decide +kernel
theorem d_M_compare_89 : decode b_M_compare 89 = .ok (.goto 57, 3) := by decide +kernel
theorem d_M_compare_92 : decode b_M_compare 92 = .ok (.iload_n 0, 1) := by decide +kernel
theorem d_M_compare_93 : decode b_M_compare 93 = .ok (.bipush 76, 2) := by decide +kernel
theorem d_M_compare_95 : decode b_M_compare 95 = .ok (.if_icmp .ge 18, 3) := by decide +kernel
theorem d_M_compare_98 : decode b_M_compare 98 = .ok (.lload_n 3, 1) := by decide +kernel
theorem d_M_compare_99 : decode b_M_compare 99 = .ok (.lload 5, 2) := by decide +kernel
theorem d_M_compare_101 : decode b_M_compare 101 = .ok (.lcmp, 1) := by decide +kernel
theorem d_M_compare_102 : decode b_M_compare 102 = .ok (.ifCond .le 7, 3) := by decide +kernel
theorem d_M_compare_105 : decode b_M_compare 105 = .ok (.iconst 1, 1) := by decide +kernel
theorem d_M_compare_106 : decode b_M_compare 106 = .ok (.goto 40, 3) := by decide +kernel
theorem d_M_compare_109 : decode b_M_compare 109 = .ok (.iconst 0, 1) := by decide +kernel
theorem d_M_compare_110 : decode b_M_compare 110 = .ok (.goto 36, 3) := by decide +kernel
theorem d_M_compare_113 : decode b_M_compare 113 = .ok (.iload_n 0, 1) := by decide +kernel
theorem d_M_compare_114 : decode b_M_compare 114 = .ok (.bipush 78, 2) := by decide +kernel
theorem d_M_compare_116 : decode b_M_compare 116 = .ok (.if_icmp .ge 18, 3) := by decide +kernel
theorem d_M_compare_119 : decode b_M_compare 119 = .ok (.lload_n 3, 1) := by decide +kernel
theorem d_M_compare_120 : decode b_M_compare 120 = .ok (.lload 5, 2) := by decide +kernel
theorem d_M_compare_122 : decode b_M_compare 122 = .ok (.lcmp, 1) := by decide +kernel
theorem d_M_compare_123 : decode b_M_compare 123 = .ok (.ifCond .gt 7, 3) := by decide +kernel
theorem d_M_compare_126 : decode b_M_compare 126 = .ok (.iconst 1, 1) := by decide +kernel
theorem d_M_compare_127 : decode b_M_compare 127 = .ok (.goto 19, 3) := by decide +kernel
theorem d_M_compare_130 : decode b_M_compare 130 = .ok (.iconst 0, 1) := by decide +kernel
theorem d_M_compare_131 : decode b_M_compare 131 = .ok (.goto 15, 3) := by decide +kernel
theorem d_M_compare_134 : decode b_M_compare 134 = .ok (.lload_n 3, 1) := by decide +kernel
theorem d_M_compare_135 : decode b_M_compare 135 = .ok (.lload 5, 2) := by decide +kernel
theorem d_M_compare_137 : decode b_M_compare 137 = .ok (.lcmp, 1) := by decide +kernel
theorem d_M_compare_138 : decode b_M_compare 138 = .ok (.ifCond .lt 7, 3) := by decide +kernel
theorem d_M_compare_141 : decode b_M_compare 141 = .ok (.iconst 1, 1) := by decide +kernel
theorem d_M_compare_142 : decode b_M_compare 142 = .ok (.goto 4, 3) := by decide +kernel
theorem d_M_compare_145 : decode b_M_compare 145 = .ok (.iconst 0, 1) := by decide +kernel
theorem d_M_compare_146 : decode b_M_compare 146 = .ok (.ireturn, 1) := by decide +kernel
theorem d_M_reckon_0 : decode b_M_reckon 0 = .ok (.iload_n 1, 1) := by decide +kernel
theorem d_M_reckon_1 : decode b_M_reckon 1 = .ok (.i2l, 1) := by decide +kernel
theorem d_M_reckon_2 : decode b_M_reckon 2 = .ok (.ldc2_w 282, 3) := by decide +kernel
theorem d_M_reckon_5 : decode b_M_reckon 5 = .ok (.land, 1) := by decide +kernel
theorem d_M_reckon_6 : decode b_M_reckon 6 = .ok (.lstore_n 3, 1) := by decide +kernel
theorem d_M_reckon_7 : decode b_M_reckon 7 = .ok (.iload_n 2, 1) := by decide +kernel
theorem d_M_reckon_8 : decode b_M_reckon 8 = .ok (.i2l, 1) := by decide +kernel
theorem d_M_reckon_9 : decode b_M_reckon 9 = .ok (.ldc2_w 282, 3) := by decide +kernel
theorem d_M_reckon_12 : decode b_M_reckon 12 = .ok (.land, 1) := by decide +kernel
theorem d_M_reckon_13 : decode b_M_reckon 13 = .ok (.lstore 5, 2) := by decide +kernel
theorem d_M_reckon_15 : decode b_M_reckon 15 = .ok (.iload_n 0, 1) := by decide +kernel
theorem d_M_reckon_16 : decode b_M_reckon 16 = .ok (.tableswitch 101 106 114 #[52, 56, 60, 64, 68, 74, 87, 93, 97], 52) := by decide +kernel
theorem d_M_reckon_68 : decode b_M_reckon 68 = .ok (.iload_n 1, 1) := by decide +kernel
theorem d_M_reckon_69 : decode b_M_reckon 69 = .ok (.iload_n 2, 1) := by decide +kernel
theorem d_M_reckon_70 : decode b_M_reckon 70 = .ok (.iadd, 1) := by decide +kernel
theorem d_M_reckon_71 : decode b_M_reckon 71 = .ok (.ireturn, 1) := by decide +kernel
theorem d_M_reckon_72 : decode b_M_reckon 72 = .ok (.iload_n 1, 1) := by decide +kernel
theorem d_M_reckon_73 : decode b_M_reckon 73 = .ok (.iload_n 2, 1) := by decide +kernel
theorem d_M_reckon_74 : decode b_M_reckon 74 = .ok (.isub, 1) := by decide +kernel
theorem d_M_reckon_75 : decode b_M_reckon 75 = .ok (.ireturn, 1) := by decide +kernel
theorem d_M_reckon_76 : decode b_M_reckon 76 = .ok (.iload_n 1, 1) := by decide +kernel
theorem d_M_reckon_77 : decode b_M_reckon 77 = .ok (.iload_n 2, 1) := by decide +kernel
theorem d_M_reckon_78 : decode b_M_reckon 78 = .ok (.imul, 1) := by decide +kernel
theorem d_M_reckon_79 : decode b_M_reckon 79 = .ok (.ireturn, 1) := by decide +kernel
theorem d_M_reckon_80 : decode b_M_reckon 80 = .ok (.iload_n 1, 1) := by decide +kernel
theorem d_M_reckon_81 : decode b_M_reckon 81 = .ok (.iload_n 2, 1) := by decide +kernel
theorem d_M_reckon_82 : decode b_M_reckon 82 = .ok (.idiv, 1) := by decide +kernel
theorem d_M_reckon_83 : decode b_M_reckon 83 = .ok (.ireturn, 1) := by decide +kernel
theorem d_M_reckon_84 : decode b_M_reckon 84 = .ok (.lload_n 3, 1) := by decide +kernel
theorem d_M_reckon_85 : decode b_M_reckon 85 = .ok (.lload 5, 2) := by decide +kernel
theorem d_M_reckon_87 : decode b_M_reckon 87 = .ok (.ldiv, 1) := by decide +kernel
theorem d_M_reckon_88 : decode b_M_reckon 88 = .ok (.l2i, 1) := by decide +kernel
theorem d_M_reckon_89 : decode b_M_reckon 89 = .ok (.ireturn, 1) := by decide +kernel
theorem d_M_reckon_90 : decode b_M_reckon 90 = .ok (.iload_n 2, 1) := by decide +kernel
theorem d_M_reckon_91 : decode b_M_reckon 91 = .ok (.iconst (-1), 1) := by decide +kernel
theorem d_M_reckon_92 : decode b_M_reckon 92 = .ok (.if_icmp .ne 7, 3) := by decide +kernel
theorem d_M_reckon_95 : decode b_M_reckon 95 = .ok (.iconst 0, 1) := by decide +kernel
theorem d_M_reckon_96 : decode b_M_reckon 96 = .ok (.goto 6, 3) := by decide +kernel
theorem d_M_reckon_99 : decode b_M_reckon 99 = .ok (.iload_n 1, 1) := by decide +kernel
theorem d_M_reckon_100 : decode b_M_reckon 100 = .ok (.iload_n 2, 1) := by decide +kernel
theorem d_M_reckon_101 : decode b_M_reckon 101 = .ok (.irem, 1) := by decide +kernel
theorem d_M_reckon_102 : decode b_M_reckon 102 = .ok (.ireturn, 1) := by decide +kernel
theorem d_M_reckon_103 : decode b_M_reckon 103 = .ok (.lload_n 3, 1) := by decide +kernel
theorem d_M_reckon_104 : decode b_M_reckon 104 = .ok (.lload 5, 2) := by decide +kernel
theorem d_M_reckon_106 : decode b_M_reckon 106 = .ok (.lrem, 1) := by decide +kernel
theorem d_M_reckon_107 : decode b_M_reckon 107 = .ok (.l2i, 1) := by decide +kernel
theorem d_M_reckon_108 : decode b_M_reckon 108 = .ok (.ireturn, 1) := by decide +kernel
theorem d_M_reckon_109 : decode b_M_reckon 109 = .ok (.iload_n 1, 1) := by decide +kernel
theorem d_M_reckon_110 : decode b_M_reckon 110 = .ok (.iload_n 2, 1) := by decide +kernel
theorem d_M_reckon_111 : decode b_M_reckon 111 = .ok (.iand, 1) := by decide +kernel
theorem d_M_reckon_112 : decode b_M_reckon 112 = .ok (.ireturn, 1) := by decide +kernel
theorem d_M_reckon_113 : decode b_M_reckon 113 = .ok (.iload_n 1, 1) := by decide +kernel
theorem d_M_reckon_114 : decode b_M_reckon 114 = .ok (.iload_n 2, 1) := by decide +kernel
theorem d_M_reckon_115 : decode b_M_reckon 115 = .ok (.ior, 1) := by decide +kernel
theorem d_M_reckon_116 : decode b_M_reckon 116 = .ok (.ireturn, 1) := by decide +kernel
theorem d_M_reckon_117 : decode b_M_reckon 117 = .ok (.iload_n 1, 1) := by decide +kernel
theorem d_M_reckon_118 : decode b_M_reckon 118 = .ok (.iload_n 2, 1) := by decide +kernel
theorem d_M_reckon_119 : decode b_M_reckon 119 = .ok (.ixor, 1) := by decide +kernel
theorem d_M_reckon_120 : decode b_M_reckon 120 = .ok (.ireturn, 1) := by decide +kernel
theorem d_M_shift_0 : decode b_M_shift 0 = .ok (.iload_n 2, 1) := by decide +kernel
theorem d_M_shift_1 : decode b_M_shift 1 = .ok (.bipush 31, 2) := by decide +kernel
theorem d_M_shift_3 : decode b_M_shift 3 = .ok (.iand, 1) := by decide +kernel
theorem d_M_shift_4 : decode b_M_shift 4 = .ok (.istore_n 3, 1) := by decide +kernel
theorem d_M_shift_5 : decode b_M_shift 5 = .ok (.iload_n 3, 1) := by decide +kernel
theorem d_M_shift_6 : decode b_M_shift 6 = .ok (.ifCond .ne 7, 3) := by decide +kernel
theorem d_M_shift_9 : decode b_M_shift 9 = .ok (.iload_n 1, 1) := by decide +kernel
theorem d_M_shift_10 : decode b_M_shift 10 = .ok (.goto 13, 3) := by decide +kernel
theorem d_M_shift_13 : decode b_M_shift 13 = .ok (.iload_n 1, 1) := by decide +kernel
theorem d_M_shift_14 : decode b_M_shift 14 = .ok (.iload_n 3, 1) := by decide +kernel
theorem d_M_shift_15 : decode b_M_shift 15 = .ok (.ishl, 1) := by decide +kernel
theorem d_M_shift_16 : decode b_M_shift 16 = .ok (.iload_n 1, 1) := by decide +kernel
theorem d_M_shift_17 : decode b_M_shift 17 = .ok (.bipush 32, 2) := by decide +kernel
theorem d_M_shift_19 : decode b_M_shift 19 = .ok (.iload_n 3, 1) := by decide +kernel
theorem d_M_shift_20 : decode b_M_shift 20 = .ok (.isub, 1) := by decide +kernel
theorem d_M_shift_21 : decode b_M_shift 21 = .ok (.iushr, 1) := by decide +kernel
theorem d_M_shift_22 : decode b_M_shift 22 = .ok (.ior, 1) := by decide +kernel
theorem d_M_shift_23 : decode b_M_shift 23 = .ok (.istore 4, 2) := by decide +kernel
theorem d_M_shift_25 : decode b_M_shift 25 = .ok (.iload_n 3, 1) := by decide +kernel
theorem d_M_shift_26 : decode b_M_shift 26 = .ok (.ifCond .ne 7, 3) := by decide +kernel
theorem d_M_shift_29 : decode b_M_shift 29 = .ok (.iload_n 1, 1) := by decide +kernel
theorem d_M_shift_30 : decode b_M_shift 30 = .ok (.goto 13, 3) := by decide +kernel
theorem d_M_shift_33 : decode b_M_shift 33 = .ok (.iload_n 1, 1) := by decide +kernel
theorem d_M_shift_34 : decode b_M_shift 34 = .ok (.iload_n 3, 1) := by decide +kernel
theorem d_M_shift_35 : decode b_M_shift 35 = .ok (.iushr, 1) := by decide +kernel
theorem d_M_shift_36 : decode b_M_shift 36 = .ok (.iload_n 1, 1) := by decide +kernel
theorem d_M_shift_37 : decode b_M_shift 37 = .ok (.bipush 32, 2) := by decide +kernel
theorem d_M_shift_39 : decode b_M_shift 39 = .ok (.iload_n 3, 1) := by decide +kernel
theorem d_M_shift_40 : decode b_M_shift 40 = .ok (.isub, 1) := by decide +kernel
theorem d_M_shift_41 : decode b_M_shift 41 = .ok (.ishl, 1) := by decide +kernel
theorem d_M_shift_42 : decode b_M_shift 42 = .ok (.ior, 1) := by decide +kernel
theorem d_M_shift_43 : decode b_M_shift 43 = .ok (.istore 5, 2) := by decide +kernel
theorem d_M_shift_45 : decode b_M_shift 45 = .ok (.iload_n 0, 1) := by decide +kernel
theorem d_M_shift_46 : decode b_M_shift 46 = .ok (.bipush 116, 2) := by decide +kernel
theorem d_M_shift_48 : decode b_M_shift 48 = .ok (.if_icmp .ne 9, 3) := by decide +kernel
theorem d_M_shift_51 : decode b_M_shift 51 = .ok (.iload_n 1, 1) := by decide +kernel
theorem d_M_shift_52 : decode b_M_shift 52 = .ok (.iload_n 3, 1) := by decide +kernel
theorem d_M_shift_53 : decode b_M_shift 53 = .ok (.ishl, 1) := by decide +kernel
theorem d_M_shift_54 : decode b_M_shift 54 = .ok (.goto 40, 3) := by decide +kernel
theorem d_M_shift_57 : decode b_M_shift 57 = .ok (.iload_n 0, 1) := by decide +kernel
theorem d_M_shift_58 : decode b_M_shift 58 = .ok (.bipush 117, 2) := by decide +kernel
theorem d_M_shift_60 : decode b_M_shift 60 = .ok (.if_icmp .ne 9, 3) := by decide +kernel
theorem d_M_shift_63 : decode b_M_shift 63 = .ok (.iload_n 1, 1) := by decide +kernel
theorem d_M_shift_64 : decode b_M_shift 64 = .ok (.iload_n 3, 1) := by decide +kernel
theorem d_M_shift_65 : decode b_M_shift 65 = .ok (.ishr, 1) := by decide +kernel
theorem d_M_shift_66 : decode b_M_shift 66 = .ok (.goto 28, 3) := by decide +kernel
theorem d_M_shift_69 : decode b_M_shift 69 = .ok (.iload_n 0, 1) := by decide +kernel
theorem d_M_shift_70 : decode b_M_shift 70 = .ok (.bipush 118, 2) := by decide +kernel
theorem d_M_shift_72 : decode b_M_shift 72 = .ok (.if_icmp .ne 9, 3) := by decide +kernel
theorem d_M_shift_75 : decode b_M_shift 75 = .ok (.iload_n 1, 1) := by decide +kernel
theorem d_M_shift_76 : decode b_M_shift 76 = .ok (.iload_n 3, 1) := by decide +kernel
theorem d_M_shift_77 : decode b_M_shift 77 = .ok (.iushr, 1) := by decide +kernel
theorem d_M_shift_78 : decode b_M_shift 78 = .ok (.goto 16, 3) := by decide +kernel
theorem d_M_shift_81 : decode b_M_shift 81 = .ok (.iload_n 0, 1) := by decide +kernel
theorem d_M_shift_82 : decode b_M_shift 82 = .ok (.bipush 119, 2) := by decide +kernel
theorem d_M_shift_84 : decode b_M_shift 84 = .ok (.if_icmp .ne 8, 3) := by decide +kernel
theorem d_M_shift_87 : decode b_M_shift 87 = .ok (.iload 4, 2) := by decide +kernel
theorem d_M_shift_89 : decode b_M_shift 89 = .ok (.goto 5, 3) := by decide +kernel
theorem d_M_shift_92 : decode b_M_shift 92 = .ok (.iload 5, 2) := by decide +kernel
theorem d_M_shift_94 : decode b_M_shift 94 = .ok (.ireturn, 1) := by decide +kernel
theorem d_M_both_0 : decode b_M_both 0 = .ok (.aload_n 0, 1) := by decide +kernel
theorem d_M_both_1 : decode b_M_both 1 = .ok (.invokevirtual 365, 3) := by decide +kernel
theorem d_M_both_4 : decode b_M_both 4 = .ok (.istore_n 2, 1) := by decide +kernel
theorem d_M_both_5 : decode b_M_both 5 = .ok (.aload_n 0, 1) := by decide +kernel
theorem d_M_both_6 : decode b_M_both 6 = .ok (.invokevirtual 365, 3) := by decide +kernel
theorem d_M_both_9 : decode b_M_both 9 = .ok (.istore_n 3, 1) := by decide +kernel
theorem d_M_both_10 : decode b_M_both 10 = .ok (.iload_n 1, 1) := by decide +kernel
theorem d_M_both_11 : decode b_M_both 11 = .ok (.bipush 108, 2) := by decide +kernel
theorem d_M_both_13 : decode b_M_both 13 = .ok (.if_icmp .le 15, 3) := by decide +kernel
theorem d_M_both_16 : decode b_M_both 16 = .ok (.iload_n 1, 1) := by decide +kernel
theorem d_M_both_17 : decode b_M_both 17 = .ok (.bipush 113, 2) := by decide +kernel
theorem d_M_both_19 : decode b_M_both 19 = .ok (.if_icmp .ge 9, 3) := by decide +kernel
theorem d_M_both_22 : decode b_M_both 22 = .ok (.iload_n 2, 1) := by decide +kernel
theorem d_M_both_23 : decode b_M_both 23 = .ok (.ifCond .ne 5, 3) := by decide +kernel
theorem d_M_both_26 : decode b_M_both 26 = .ok (.iconst 3, 1) := by decide +kernel
theorem d_M_both_27 : decode b_M_both 27 = .ok (.ireturn, 1) := by decide +kernel
theorem d_M_both_28 : decode b_M_both 28 = .ok (.iload_n 1, 1) := by decide +kernel
theorem d_M_both_29 : decode b_M_both 29 = .ok (.bipush 109, 2) := by decide +kernel
theorem d_M_both_31 : decode b_M_both 31 = .ok (.if_icmp .ne 17, 3) := by decide +kernel
theorem d_M_both_34 : decode b_M_both 34 = .ok (.iload_n 3, 1) := by decide +kernel
theorem d_M_both_35 : decode b_M_both 35 = .ok (.ldc_w 384, 3) := by decide +kernel
theorem d_M_both_38 : decode b_M_both 38 = .ok (.if_icmp .ne 10, 3) := by decide +kernel
theorem d_M_both_41 : decode b_M_both 41 = .ok (.iload_n 2, 1) := by decide +kernel
theorem d_M_both_42 : decode b_M_both 42 = .ok (.iconst (-1), 1) := by decide +kernel
theorem d_M_both_43 : decode b_M_both 43 = .ok (.if_icmp .ne 5, 3) := by decide +kernel
theorem d_M_both_46 : decode b_M_both 46 = .ok (.iconst 4, 1) := by decide +kernel
theorem d_M_both_47 : decode b_M_both 47 = .ok (.ireturn, 1) := by decide +kernel
theorem d_M_both_48 : decode b_M_both 48 = .ok (.aload_n 0, 1) := by decide +kernel
theorem d_M_both_49 : decode b_M_both 49 = .ok (.iload_n 1, 1) := by decide +kernel
theorem d_M_both_50 : decode b_M_both 50 = .ok (.bipush 80, 2) := by decide +kernel
theorem d_M_both_52 : decode b_M_both 52 = .ok (.if_icmp .ge 20, 3) := by decide +kernel
theorem d_M_both_55 : decode b_M_both 55 = .ok (.iload_n 1, 1) := by decide +kernel
theorem d_M_both_56 : decode b_M_both 56 = .ok (.iload_n 3, 1) := by decide +kernel
theorem d_M_both_57 : decode b_M_both 57 = .ok (.iload_n 2, 1) := by decide +kernel
theorem d_M_both_58 : decode b_M_both 58 = .ok (.invokestatic 385, 3) := by decide +kernel
theorem d_M_both_61 : decode b_M_both 61 = .ok (.ifCond .eq 7, 3) := by decide +kernel
theorem d_M_both_64 : decode b_M_both 64 = .ok (.iconst 1, 1) := by decide +kernel
theorem d_M_both_65 : decode b_M_both 65 = .ok (.goto 28, 3) := by decide +kernel
theorem d_M_both_68 : decode b_M_both 68 = .ok (.iconst 0, 1) := by decide +kernel
theorem d_M_both_69 : decode b_M_both 69 = .ok (.goto 24, 3) := by decide +kernel
theorem d_M_both_72 : decode b_M_both 72 = .ok (.iload_n 1, 1) := by decide +kernel
theorem d_M_both_73 : decode b_M_both 73 = .ok (.bipush 116, 2) := by decide +kernel
theorem d_M_both_75 : decode b_M_both 75 = .ok (.if_icmp .ge 12, 3) := by decide +kernel
theorem d_M_both_78 : decode b_M_both 78 = .ok (.iload_n 1, 1) := by decide +kernel
theorem d_M_both_79 : decode b_M_both 79 = .ok (.iload_n 3, 1) := by decide +kernel
theorem d_M_both_80 : decode b_M_both 80 = .ok (.iload_n 2, 1) := by decide +kernel
theorem d_M_both_81 : decode b_M_both 81 = .ok (.invokestatic 389, 3) := by decide +kernel
theorem d_M_both_84 : decode b_M_both 84 = .ok (.goto 9, 3) := by decide +kernel
theorem d_M_both_87 : decode b_M_both 87 = .ok (.iload_n 1, 1) := by decide +kernel
theorem d_M_both_88 : decode b_M_both 88 = .ok (.iload_n 3, 1) := by decide +kernel
theorem d_M_both_89 : decode b_M_both 89 = .ok (.iload_n 2, 1) := by decide +kernel
theorem d_M_both_90 : decode b_M_both 90 = .ok (.invokestatic 393, 3) := by decide +kernel
theorem d_M_both_93 : decode b_M_both 93 = .ok (.invokevirtual 368, 3) := by decide +kernel
theorem d_M_both_96 : decode b_M_both 96 = .ok (.iconst 0, 1) := by decide +kernel
theorem d_M_both_97 : decode b_M_both 97 = .ok (.ireturn, 1) := by decide +kernel
theorem d_M_perform_0 : decode b_M_perform 0 = .ok (.aload_n 0, 1) := by decide +kernel
theorem d_M_perform_1 : decode b_M_perform 1 = .ok (.getfield 51, 3) := by decide +kernel
theorem d_M_perform_4 : decode b_M_perform 4 = .ok (.iload_n 1, 1) := by decide +kernel
theorem d_M_perform_5 : decode b_M_perform 5 = .ok (.iaload, 1) := by decide +kernel
theorem d_M_perform_6 : decode b_M_perform 6 = .ok (.istore_n 2, 1) := by decide +kernel
theorem d_M_perform_7 : decode b_M_perform 7 = .ok (.iload_n 2, 1) := by decide +kernel
theorem d_M_perform_8 : decode b_M_perform 8 = .ok (.bipush 17, 2) := by decide +kernel
theorem d_M_perform_10 : decode b_M_perform 10 = .ok (.if_icmp .ge 9, 3) := by decide +kernel
theorem d_M_perform_13 : decode b_M_perform 13 = .ok (.aload_n 0, 1) := by decide +kernel
theorem d_M_perform_14 : decode b_M_perform 14 = .ok (.iload_n 1, 1) := by decide +kernel
theorem d_M_perform_15 : decode b_M_perform 15 = .ok (.invokevirtual 359, 3) := by decide +kernel
theorem d_M_perform_18 : decode b_M_perform 18 = .ok (.ireturn, 1) := by decide +kernel
theorem d_M_perform_19 : decode b_M_perform 19 = .ok (.iload_n 2, 1) := by decide +kernel
theorem d_M_perform_20 : decode b_M_perform 20 = .ok (.bipush 39, 2) := by decide +kernel
theorem d_M_perform_22 : decode b_M_perform 22 = .ok (.if_icmp .le 15, 3) := by decide +kernel
theorem d_M_perform_25 : decode b_M_perform 25 = .ok (.iload_n 2, 1) := by decide +kernel
theorem d_M_perform_26 : decode b_M_perform 26 = .ok (.bipush 65, 2) := by decide +kernel
theorem d_M_perform_28 : decode b_M_perform 28 = .ok (.if_icmp .ge 9, 3) := by decide +kernel
theorem d_M_perform_31 : decode b_M_perform 31 = .ok (.aload_n 0, 1) := by decide +kernel
theorem d_M_perform_32 : decode b_M_perform 32 = .ok (.iload_n 1, 1) := by decide +kernel
theorem d_M_perform_33 : decode b_M_perform 33 = .ok (.invokevirtual 362, 3) := by decide +kernel
theorem d_M_perform_36 : decode b_M_perform 36 = .ok (.ireturn, 1) := by decide +kernel
theorem d_M_perform_37 : decode b_M_perform 37 = .ok (.aload_n 0, 1) := by decide +kernel
theorem d_M_perform_38 : decode b_M_perform 38 = .ok (.getfield 108, 3) := by decide +kernel
theorem d_M_perform_41 : decode b_M_perform 41 = .ok (.aload_n 0, 1) := by decide +kernel
theorem d_M_perform_42 : decode b_M_perform 42 = .ok (.getfield 340, 3) := by decide +kernel
theorem d_M_perform_45 : decode b_M_perform 45 = .ok (.iload_n 1, 1) := by decide +kernel
theorem d_M_perform_46 : decode b_M_perform 46 = .ok (.iconst 1, 1) := by decide +kernel
theorem d_M_perform_47 : decode b_M_perform 47 = .ok (.iadd, 1) := by decide +kernel
theorem d_M_perform_48 : decode b_M_perform 48 = .ok (.iastore, 1) := by decide +kernel
theorem d_M_perform_49 : decode b_M_perform 49 = .ok (.aload_n 0, 1) := by decide +kernel
theorem d_M_perform_50 : decode b_M_perform 50 = .ok (.getfield 111, 3) := by decide +kernel
theorem d_M_perform_53 : decode b_M_perform 53 = .ok (.aload_n 0, 1) := by decide +kernel
theorem d_M_perform_54 : decode b_M_perform 54 = .ok (.getfield 340, 3) := by decide +kernel
theorem d_M_perform_57 : decode b_M_perform 57 = .ok (.iaload, 1) := by decide +kernel
theorem d_M_perform_58 : decode b_M_perform 58 = .ok (.iload_n 2, 1) := by decide +kernel
theorem d_M_perform_59 : decode b_M_perform 59 = .ok (.bipush 31, 2) := by decide +kernel
theorem d_M_perform_61 : decode b_M_perform 61 = .ok (.if_icmp .le 19, 3) := by decide +kernel
theorem d_M_perform_64 : decode b_M_perform 64 = .ok (.iload_n 2, 1) := by decide +kernel
theorem d_M_perform_65 : decode b_M_perform 65 = .ok (.bipush 35, 2) := by decide +kernel
theorem d_M_perform_67 : decode b_M_perform 67 = .ok (.if_icmp .ge 13, 3) := by decide +kernel
theorem d_M_perform_70 : decode b_M_perform 70 = .ok (.aload_n 0, 1) := by decide +kernel
theorem d_M_perform_71 : decode b_M_perform 71 = .ok (.getfield 54, 3) := by decide +kernel
theorem d_M_perform_74 : decode b_M_perform 74 = .ok (.iload_n 1, 1) := by decide +kernel
theorem d_M_perform_75 : decode b_M_perform 75 = .ok (.laload, 1) := by decide +kernel
theorem d_M_perform_76 : decode b_M_perform 76 = .ok (.l2i, 1) := by decide +kernel
theorem d_M_perform_77 : decode b_M_perform 77 = .ok (.goto 4, 3) := by decide +kernel
theorem d_M_perform_80 : decode b_M_perform 80 = .ok (.iconst 0, 1) := by decide +kernel
theorem d_M_perform_81 : decode b_M_perform 81 = .ok (.iadd, 1) := by decide +kernel
theorem d_M_perform_82 : decode b_M_perform 82 = .ok (.istore_n 3, 1) := by decide +kernel
theorem d_M_perform_83 : decode b_M_perform 83 = .ok (.iload_n 2, 1) := by decide +kernel
theorem d_M_perform_84 : decode b_M_perform 84 = .ok (.bipush 26, 2) := by decide +kernel
theorem d_M_perform_86 : decode b_M_perform 86 = .ok (.if_icmp .ne 16, 3) := by decide +kernel
theorem d_M_perform_89 : decode b_M_perform 89 = .ok (.aload_n 0, 1) := by decide +kernel
theorem d_M_perform_90 : decode b_M_perform 90 = .ok (.dup, 1) := by decide +kernel
theorem d_M_perform_91 : decode b_M_perform 91 = .ok (.getfield 343, 3) := by decide +kernel
theorem d_M_perform_94 : decode b_M_perform 94 = .ok (.iconst 1, 1) := by decide +kernel
theorem d_M_perform_95 : decode b_M_perform 95 = .ok (.isub, 1) := by decide +kernel
theorem d_M_perform_96 : decode b_M_perform 96 = .ok (.putfield 343, 3) := by decide +kernel
theorem d_M_perform_99 : decode b_M_perform 99 = .ok (.goto 209, 3) := by decide +kernel
theorem d_M_perform_102 : decode b_M_perform 102 = .ok (.iload_n 2, 1) := by decide +kernel
theorem d_M_perform_103 : decode b_M_perform 103 = .ok (.bipush 27, 2) := by decide +kernel
theorem d_M_perform_105 : decode b_M_perform 105 = .ok (.if_icmp .ne 40, 3) := by decide +kernel
theorem d_M_perform_108 : decode b_M_perform 108 = .ok (.aload_n 0, 1) := by decide +kernel
theorem d_M_perform_109 : decode b_M_perform 109 = .ok (.invokevirtual 365, 3) := by decide +kernel
theorem d_M_perform_112 : decode b_M_perform 112 = .ok (.istore 4, 2) := by decide +kernel
theorem d_M_perform_114 : decode b_M_perform 114 = .ok (.aload_n 0, 1) := by decide +kernel
theorem d_M_perform_115 : decode b_M_perform 115 = .ok (.invokevirtual 365, 3) := by decide +kernel
theorem d_M_perform_118 : decode b_M_perform 118 = .ok (.istore 5, 2) := by decide +kernel
theorem d_M_perform_120 : decode b_M_perform 120 = .ok (.aload_n 0, 1) := by decide +kernel
theorem d_M_perform_121 : decode b_M_perform 121 = .ok (.invokevirtual 365, 3) := by decide +kernel
theorem d_M_perform_124 : decode b_M_perform 124 = .ok (.istore 6, 2) := by decide +kernel
theorem d_M_perform_126 : decode b_M_perform 126 = .ok (.aload_n 0, 1) := by decide +kernel
theorem d_M_perform_127 : decode b_M_perform 127 = .ok (.iload 4, 2) := by decide +kernel
theorem d_M_perform_129 : decode b_M_perform 129 = .ok (.ifCond .eq 8, 3) := by decide +kernel
theorem d_M_perform_132 : decode b_M_perform 132 = .ok (.iload 6, 2) := by decide +kernel
theorem d_M_perform_134 : decode b_M_perform 134 = .ok (.goto 5, 3) := by decide +kernel
theorem d_M_perform_137 : decode b_M_perform 137 = .ok (.iload 5, 2) := by decide +kernel
theorem d_M_perform_139 : decode b_M_perform 139 = .ok (.invokevirtual 368, 3) := by decide +kernel
theorem d_M_perform_142 : decode b_M_perform 142 = .ok (.goto 166, 3) := by decide +kernel
theorem d_M_perform_145 : decode b_M_perform 145 = .ok (.iload_n 2, 1) := by decide +kernel
theorem d_M_perform_146 : decode b_M_perform 146 = .ok (.bipush 32, 2) := by decide +kernel
theorem d_M_perform_148 : decode b_M_perform 148 = .ok (.if_icmp .ne 16, 3) := by decide +kernel
theorem d_M_perform_151 : decode b_M_perform 151 = .ok (.aload_n 0, 1) := by decide +kernel
theorem d_M_perform_152 : decode b_M_perform 152 = .ok (.aload_n 0, 1) := by decide +kernel
theorem d_M_perform_153 : decode b_M_perform 153 = .ok (.getfield 114, 3) := by decide +kernel
theorem d_M_perform_156 : decode b_M_perform 156 = .ok (.iload_n 3, 1) := by decide +kernel
theorem d_M_perform_157 : decode b_M_perform 157 = .ok (.iaload, 1) := by decide +kernel
theorem d_M_perform_158 : decode b_M_perform 158 = .ok (.invokevirtual 368, 3) := by decide +kernel
theorem d_M_perform_161 : decode b_M_perform 161 = .ok (.goto 147, 3) := by decide +kernel
theorem d_M_perform_164 : decode b_M_perform 164 = .ok (.iload_n 2, 1) := by decide +kernel
theorem d_M_perform_165 : decode b_M_perform 165 = .ok (.bipush 33, 2) := by decide +kernel
theorem d_M_perform_167 : decode b_M_perform 167 = .ok (.if_icmp .ne 16, 3) := by decide +kernel
theorem d_M_perform_170 : decode b_M_perform 170 = .ok (.aload_n 0, 1) := by decide +kernel
theorem d_M_perform_171 : decode b_M_perform 171 = .ok (.getfield 114, 3) := by decide +kernel
theorem d_M_perform_174 : decode b_M_perform 174 = .ok (.iload_n 3, 1) := by decide +kernel
theorem d_M_perform_175 : decode b_M_perform 175 = .ok (.aload_n 0, 1) := by decide +kernel
theorem d_M_perform_176 : decode b_M_perform 176 = .ok (.invokevirtual 365, 3) := by decide +kernel
theorem d_M_perform_179 : decode b_M_perform 179 = .ok (.iastore, 1) := by decide +kernel
theorem d_M_perform_180 : decode b_M_perform 180 = .ok (.goto 128, 3) := by decide +kernel
theorem d_M_perform_183 : decode b_M_perform 183 = .ok (.iload_n 2, 1) := by decide +kernel
theorem d_M_perform_184 : decode b_M_perform 184 = .ok (.bipush 34, 2) := by decide +kernel
theorem d_M_perform_186 : decode b_M_perform 186 = .ok (.if_icmp .ne 23, 3) := by decide +kernel
theorem d_M_perform_189 : decode b_M_perform 189 = .ok (.aload_n 0, 1) := by decide +kernel
theorem d_M_perform_190 : decode b_M_perform 190 = .ok (.getfield 114, 3) := by decide +kernel
theorem d_M_perform_193 : decode b_M_perform 193 = .ok (.iload_n 3, 1) := by decide +kernel
theorem d_M_perform_194 : decode b_M_perform 194 = .ok (.aload_n 0, 1) := by decide +kernel
theorem d_M_perform_195 : decode b_M_perform 195 = .ok (.getfield 114, 3) := by decide +kernel
theorem d_M_perform_198 : decode b_M_perform 198 = .ok (.aload_n 0, 1) := by decide +kernel
theorem d_M_perform_199 : decode b_M_perform 199 = .ok (.getfield 343, 3) := by decide +kernel
theorem d_M_perform_202 : decode b_M_perform 202 = .ok (.iconst 1, 1) := by decide +kernel
theorem d_M_perform_203 : decode b_M_perform 203 = .ok (.isub, 1) := by decide +kernel
theorem d_M_perform_204 : decode b_M_perform 204 = .ok (.iaload, 1) := by decide +kernel
theorem d_M_perform_205 : decode b_M_perform 205 = .ok (.iastore, 1) := by decide +kernel
theorem d_M_perform_206 : decode b_M_perform 206 = .ok (.goto 102, 3) := by decide +kernel
theorem d_M_perform_209 : decode b_M_perform 209 = .ok (.iload_n 2, 1) := by decide +kernel
theorem d_M_perform_210 : decode b_M_perform 210 = .ok (.bipush 35, 2) := by decide +kernel
theorem d_M_perform_212 : decode b_M_perform 212 = .ok (.if_icmp .ne 22, 3) := by decide +kernel
theorem d_M_perform_215 : decode b_M_perform 215 = .ok (.aload_n 0, 1) := by decide +kernel
theorem d_M_perform_216 : decode b_M_perform 216 = .ok (.aload_n 0, 1) := by decide +kernel
theorem d_M_perform_217 : decode b_M_perform 217 = .ok (.getfield 99, 3) := by decide +kernel
theorem d_M_perform_220 : decode b_M_perform 220 = .ok (.aload_n 0, 1) := by decide +kernel
theorem d_M_perform_221 : decode b_M_perform 221 = .ok (.getfield 54, 3) := by decide +kernel
theorem d_M_perform_224 : decode b_M_perform 224 = .ok (.iload_n 1, 1) := by decide +kernel
theorem d_M_perform_225 : decode b_M_perform 225 = .ok (.laload, 1) := by decide +kernel
theorem d_M_perform_226 : decode b_M_perform 226 = .ok (.l2i, 1) := by decide +kernel
theorem d_M_perform_227 : decode b_M_perform 227 = .ok (.iaload, 1) := by decide +kernel
theorem d_M_perform_228 : decode b_M_perform 228 = .ok (.invokevirtual 368, 3) := by decide +kernel
theorem d_M_perform_231 : decode b_M_perform 231 = .ok (.goto 77, 3) := by decide +kernel
theorem d_M_perform_234 : decode b_M_perform 234 = .ok (.iload_n 2, 1) := by decide +kernel
theorem d_M_perform_235 : decode b_M_perform 235 = .ok (.bipush 36, 2) := by decide +kernel
theorem d_M_perform_237 : decode b_M_perform 237 = .ok (.if_icmp .ne 22, 3) := by decide +kernel
theorem d_M_perform_240 : decode b_M_perform 240 = .ok (.aload_n 0, 1) := by decide +kernel
theorem d_M_perform_241 : decode b_M_perform 241 = .ok (.getfield 99, 3) := by decide +kernel
theorem d_M_perform_244 : decode b_M_perform 244 = .ok (.aload_n 0, 1) := by decide +kernel
theorem d_M_perform_245 : decode b_M_perform 245 = .ok (.getfield 54, 3) := by decide +kernel
theorem d_M_perform_248 : decode b_M_perform 248 = .ok (.iload_n 1, 1) := by decide +kernel
theorem d_M_perform_249 : decode b_M_perform 249 = .ok (.laload, 1) := by decide +kernel
theorem d_M_perform_250 : decode b_M_perform 250 = .ok (.l2i, 1) := by decide +kernel
theorem d_M_perform_251 : decode b_M_perform 251 = .ok (.aload_n 0, 1) := by decide +kernel
theorem d_M_perform_252 : decode b_M_perform 252 = .ok (.invokevirtual 365, 3) := by decide +kernel
theorem d_M_perform_255 : decode b_M_perform 255 = .ok (.iastore, 1) := by decide +kernel
theorem d_M_perform_256 : decode b_M_perform 256 = .ok (.goto 52, 3) := by decide +kernel
theorem d_M_perform_259 : decode b_M_perform 259 = .ok (.iload_n 2, 1) := by decide +kernel
theorem d_M_perform_260 : decode b_M_perform 260 = .ok (.bipush 65, 2) := by decide +kernel
theorem d_M_perform_262 : decode b_M_perform 262 = .ok (.if_icmp .ne 17, 3) := by decide +kernel
theorem d_M_perform_265 : decode b_M_perform 265 = .ok (.aload_n 0, 1) := by decide +kernel
theorem d_M_perform_266 : decode b_M_perform 266 = .ok (.aload_n 0, 1) := by decide +kernel
theorem d_M_perform_267 : decode b_M_perform 267 = .ok (.getfield 54, 3) := by decide +kernel
theorem d_M_perform_270 : decode b_M_perform 270 = .ok (.iload_n 1, 1) := by decide +kernel
theorem d_M_perform_271 : decode b_M_perform 271 = .ok (.laload, 1) := by decide +kernel
theorem d_M_perform_272 : decode b_M_perform 272 = .ok (.l2i, 1) := by decide +kernel
theorem d_M_perform_273 : decode b_M_perform 273 = .ok (.invokevirtual 368, 3) := by decide +kernel
theorem d_M_perform_276 : decode b_M_perform 276 = .ok (.goto 32, 3) := by decide +kernel
theorem d_M_perform_279 : decode b_M_perform 279 = .ok (.iload_n 2, 1) := by decide +kernel
theorem d_M_perform_280 : decode b_M_perform 280 = .ok (.invokestatic 328, 3) := by decide +kernel
theorem d_M_perform_283 : decode b_M_perform 283 = .ok (.iconst 1, 1) := by decide +kernel
theorem d_M_perform_284 : decode b_M_perform 284 = .ok (.if_icmp .ne 18, 3) := by decide +kernel
theorem d_M_perform_287 : decode b_M_perform 287 = .ok (.aload_n 0, 1) := by decide +kernel
theorem d_M_perform_288 : decode b_M_perform 288 = .ok (.iload_n 2, 1) := by decide +kernel
theorem d_M_perform_289 : decode b_M_perform 289 = .ok (.aload_n 0, 1) := by decide +kernel
theorem d_M_perform_290 : decode b_M_perform 290 = .ok (.invokevirtual 365, 3) := by decide +kernel
theorem d_M_perform_293 : decode b_M_perform 293 = .ok (.invokestatic 371, 3) := by decide +kernel
theorem d_M_perform_296 : decode b_M_perform 296 = .ok (.invokevirtual 368, 3) := by decide +kernel
theorem d_M_perform_299 : decode b_M_perform 299 = .ok (.goto 9, 3) := by decide +kernel
theorem d_M_perform_302 : decode b_M_perform 302 = .ok (.aload_n 0, 1) := by decide +kernel
theorem d_M_perform_303 : decode b_M_perform 303 = .ok (.iload_n 2, 1) := by decide +kernel
theorem d_M_perform_304 : decode b_M_perform 304 = .ok (.invokevirtual 374, 3) := by decide +kernel
theorem d_M_perform_307 : decode b_M_perform 307 = .ok (.ireturn, 1) := by decide +kernel
theorem d_M_perform_308 : decode b_M_perform 308 = .ok (.iconst 0, 1) := by decide +kernel
theorem d_M_perform_309 : decode b_M_perform 309 = .ok (.ireturn, 1) := by decide +kernel
theorem d_M_run_0 : decode b_M_run 0 = .ok (.aload_n 0, 1) := by decide +kernel
theorem d_M_run_1 : decode b_M_run 1 = .ok (.iconst 0, 1) := by decide +kernel
theorem d_M_run_2 : decode b_M_run 2 = .ok (.putfield 120, 3) := by decide +kernel
theorem d_M_run_5 : decode b_M_run 5 = .ok (.aload_n 0, 1) := by decide +kernel
theorem d_M_run_6 : decode b_M_run 6 = .ok (.getfield 134, 3) := by decide +kernel
theorem d_M_run_9 : decode b_M_run 9 = .ok (.ifCond .eq 7, 3) := by decide +kernel
theorem d_M_run_12 : decode b_M_run 12 = .ok (.iload_n 1, 1) := by decide +kernel
theorem d_M_run_13 : decode b_M_run 13 = .ok (.ifCond .ge 5, 3) := by decide +kernel
theorem d_M_run_16 : decode b_M_run 16 = .ok (.iconst (-1), 1) := by decide +kernel
theorem d_M_run_17 : decode b_M_run 17 = .ok (.ireturn, 1) := by decide +kernel
theorem d_M_run_18 : decode b_M_run 18 = .ok (.aload_n 0, 1) := by decide +kernel
theorem d_M_run_19 : decode b_M_run 19 = .ok (.invokevirtual 352, 3) := by decide +kernel
theorem d_M_run_22 : decode b_M_run 22 = .ok (.iload_n 1, 1) := by decide +kernel
theorem d_M_run_23 : decode b_M_run 23 = .ok (.ldc_w 355, 3) := by decide +kernel
theorem d_M_run_26 : decode b_M_run 26 = .ok (.if_icmp .le 9, 3) := by decide +kernel
theorem d_M_run_29 : decode b_M_run 29 = .ok (.ldc_w 355, 3) := by decide +kernel
theorem d_M_run_32 : decode b_M_run 32 = .ok (.goto 4, 3) := by decide +kernel
theorem d_M_run_35 : decode b_M_run 35 = .ok (.iload_n 1, 1) := by decide +kernel
theorem d_M_run_36 : decode b_M_run 36 = .ok (.istore_n 2, 1) := by decide +kernel
theorem d_M_run_37 : decode b_M_run 37 = .ok (.iconst 0, 1) := by decide +kernel
theorem d_M_run_38 : decode b_M_run 38 = .ok (.istore_n 3, 1) := by decide +kernel
theorem d_M_run_39 : decode b_M_run 39 = .ok (.iload_n 3, 1) := by decide +kernel
theorem d_M_run_40 : decode b_M_run 40 = .ok (.iload_n 2, 1) := by decide +kernel
theorem d_M_run_41 : decode b_M_run 41 = .ok (.if_icmp .ge 53, 3) := by decide +kernel
theorem d_M_run_44 : decode b_M_run 44 = .ok (.aload_n 0, 1) := by decide +kernel
theorem d_M_run_45 : decode b_M_run 45 = .ok (.getfield 134, 3) := by decide +kernel
theorem d_M_run_48 : decode b_M_run 48 = .ok (.ifCond .eq 46, 3) := by decide +kernel
theorem d_M_run_51 : decode b_M_run 51 = .ok (.aload_n 0, 1) := by decide +kernel
theorem d_M_run_52 : decode b_M_run 52 = .ok (.aload_n 0, 1) := by decide +kernel
theorem d_M_run_53 : decode b_M_run 53 = .ok (.getfield 108, 3) := by decide +kernel
theorem d_M_run_56 : decode b_M_run 56 = .ok (.aload_n 0, 1) := by decide +kernel
theorem d_M_run_57 : decode b_M_run 57 = .ok (.getfield 340, 3) := by decide +kernel
theorem d_M_run_60 : decode b_M_run 60 = .ok (.iaload, 1) := by decide +kernel
theorem d_M_run_61 : decode b_M_run 61 = .ok (.invokevirtual 356, 3) := by decide +kernel
theorem d_M_run_64 : decode b_M_run 64 = .ok (.istore 4, 2) := by decide +kernel
theorem d_M_run_66 : decode b_M_run 66 = .ok (.iload 4, 2) := by decide +kernel
theorem d_M_run_68 : decode b_M_run 68 = .ok (.ifCond .le 16, 3) := by decide +kernel
theorem d_M_run_71 : decode b_M_run 71 = .ok (.aload_n 0, 1) := by decide +kernel
theorem d_M_run_72 : decode b_M_run 72 = .ok (.iconst 0, 1) := by decide +kernel
theorem d_M_run_73 : decode b_M_run 73 = .ok (.putfield 134, 3) := by decide +kernel
theorem d_M_run_76 : decode b_M_run 76 = .ok (.aload_n 0, 1) := by decide +kernel
theorem d_M_run_77 : decode b_M_run 77 = .ok (.iconst 0, 1) := by decide +kernel
theorem d_M_run_78 : decode b_M_run 78 = .ok (.putfield 137, 3) := by decide +kernel
theorem d_M_run_81 : decode b_M_run 81 = .ok (.iload 4, 2) := by decide +kernel
theorem d_M_run_83 : decode b_M_run 83 = .ok (.ireturn, 1) := by decide +kernel
theorem d_M_run_84 : decode b_M_run 84 = .ok (.aload_n 0, 1) := by decide +kernel
theorem d_M_run_85 : decode b_M_run 85 = .ok (.invokevirtual 352, 3) := by decide +kernel
theorem d_M_run_88 : decode b_M_run 88 = .ok (.iinc 3 1, 3) := by decide +kernel
theorem d_M_run_91 : decode b_M_run 91 = .ok (.goto (-52), 3) := by decide +kernel
theorem d_M_run_94 : decode b_M_run 94 = .ok (.aload_n 0, 1) := by decide +kernel
theorem d_M_run_95 : decode b_M_run 95 = .ok (.getfield 134, 3) := by decide +kernel
theorem d_M_run_98 : decode b_M_run 98 = .ok (.ifCond .eq 7, 3) := by decide +kernel
theorem d_M_run_101 : decode b_M_run 101 = .ok (.iconst 0, 1) := by decide +kernel
theorem d_M_run_102 : decode b_M_run 102 = .ok (.goto 4, 3) := by decide +kernel
theorem d_M_run_105 : decode b_M_run 105 = .ok (.iconst 1, 1) := by decide +kernel
theorem d_M_run_106 : decode b_M_run 106 = .ok (.ireturn, 1) := by decide +kernel
theorem d_M_result_0 : decode b_M_result 0 = .ok (.aload_n 0, 1) := by decide +kernel
theorem d_M_result_1 : decode b_M_result 1 = .ok (.iconst 0, 1) := by decide +kernel
theorem d_M_result_2 : decode b_M_result 2 = .ok (.putfield 120, 3) := by decide +kernel
theorem d_M_result_5 : decode b_M_result 5 = .ok (.aload_n 0, 1) := by decide +kernel
theorem d_M_result_6 : decode b_M_result 6 = .ok (.getfield 137, 3) := by decide +kernel
theorem d_M_result_9 : decode b_M_result 9 = .ok (.ireturn, 1) := by decide +kernel
theorem d_M_peekMem_0 : decode b_M_peekMem 0 = .ok (.aload_n 0, 1) := by decide +kernel
theorem d_M_peekMem_1 : decode b_M_peekMem 1 = .ok (.iconst 0, 1) := by decide +kernel
theorem d_M_peekMem_2 : decode b_M_peekMem 2 = .ok (.putfield 120, 3) := by decide +kernel
theorem d_M_peekMem_5 : decode b_M_peekMem 5 = .ok (.iload_n 1, 1) := by decide +kernel
theorem d_M_peekMem_6 : decode b_M_peekMem 6 = .ok (.ifCond .lt 23, 3) := by decide +kernel
theorem d_M_peekMem_9 : decode b_M_peekMem 9 = .ok (.iload_n 1, 1) := by decide +kernel
theorem d_M_peekMem_10 : decode b_M_peekMem 10 = .ok (.bipush 64, 2) := by decide +kernel
theorem d_M_peekMem_12 : decode b_M_peekMem 12 = .ok (.aload_n 0, 1) := by decide +kernel
theorem d_M_peekMem_13 : decode b_M_peekMem 13 = .ok (.getfield 146, 3) := by decide +kernel
theorem d_M_peekMem_16 : decode b_M_peekMem 16 = .ok (.imul, 1) := by decide +kernel
theorem d_M_peekMem_17 : decode b_M_peekMem 17 = .ok (.if_icmp .ge 12, 3) := by decide +kernel
theorem d_M_peekMem_20 : decode b_M_peekMem 20 = .ok (.aload_n 0, 1) := by decide +kernel
theorem d_M_peekMem_21 : decode b_M_peekMem 21 = .ok (.getfield 96, 3) := by decide +kernel
theorem d_M_peekMem_24 : decode b_M_peekMem 24 = .ok (.iload_n 1, 1) := by decide +kernel
theorem d_M_peekMem_25 : decode b_M_peekMem 25 = .ok (.iaload, 1) := by decide +kernel
theorem d_M_peekMem_26 : decode b_M_peekMem 26 = .ok (.goto 4, 3) := by decide +kernel
theorem d_M_peekMem_29 : decode b_M_peekMem 29 = .ok (.iconst (-1), 1) := by decide +kernel
theorem d_M_peekMem_30 : decode b_M_peekMem 30 = .ok (.ireturn, 1) := by decide +kernel
theorem d_M_rcodeLen_0 : decode b_M_rcodeLen 0 = .ok (.aload_n 0, 1) := by decide +kernel
theorem d_M_rcodeLen_1 : decode b_M_rcodeLen 1 = .ok (.iconst 0, 1) := by decide +kernel
theorem d_M_rcodeLen_2 : decode b_M_rcodeLen 2 = .ok (.putfield 120, 3) := by decide +kernel
theorem d_M_rcodeLen_5 : decode b_M_rcodeLen 5 = .ok (.aload_n 0, 1) := by decide +kernel
theorem d_M_rcodeLen_6 : decode b_M_rcodeLen 6 = .ok (.getfield 143, 3) := by decide +kernel
theorem d_M_rcodeLen_9 : decode b_M_rcodeLen 9 = .ok (.ireturn, 1) := by decide +kernel
theorem d_M_rcode_0 : decode b_M_rcode 0 = .ok (.aload_n 0, 1) := by decide +kernel
theorem d_M_rcode_1 : decode b_M_rcode 1 = .ok (.iconst 0, 1) := by decide +kernel
theorem d_M_rcode_2 : decode b_M_rcode 2 = .ok (.putfield 120, 3) := by decide +kernel
theorem d_M_rcode_5 : decode b_M_rcode 5 = .ok (.iload_n 1, 1) := by decide +kernel
theorem d_M_rcode_6 : decode b_M_rcode 6 = .ok (.ifCond .lt 20, 3) := by decide +kernel
theorem d_M_rcode_9 : decode b_M_rcode 9 = .ok (.iload_n 1, 1) := by decide +kernel
theorem d_M_rcode_10 : decode b_M_rcode 10 = .ok (.aload_n 0, 1) := by decide +kernel
theorem d_M_rcode_11 : decode b_M_rcode 11 = .ok (.getfield 143, 3) := by decide +kernel
theorem d_M_rcode_14 : decode b_M_rcode 14 = .ok (.if_icmp .ge 12, 3) := by decide +kernel
theorem d_M_rcode_17 : decode b_M_rcode 17 = .ok (.aload_n 0, 1) := by decide +kernel
theorem d_M_rcode_18 : decode b_M_rcode 18 = .ok (.getfield 117, 3) := by decide +kernel
theorem d_M_rcode_21 : decode b_M_rcode 21 = .ok (.iload_n 1, 1) := by decide +kernel
theorem d_M_rcode_22 : decode b_M_rcode 22 = .ok (.iaload, 1) := by decide +kernel
theorem d_M_rcode_23 : decode b_M_rcode 23 = .ok (.goto 4, 3) := by decide +kernel
theorem d_M_rcode_26 : decode b_M_rcode 26 = .ok (.iconst (-1), 1) := by decide +kernel
theorem d_M_rcode_27 : decode b_M_rcode 27 = .ok (.ireturn, 1) := by decide +kernel
theorem d_M_reset_0 : decode b_M_reset 0 = .ok (.aload_n 0, 1) := by decide +kernel
theorem d_M_reset_1 : decode b_M_reset 1 = .ok (.iconst 0, 1) := by decide +kernel
theorem d_M_reset_2 : decode b_M_reset 2 = .ok (.putfield 120, 3) := by decide +kernel
theorem d_M_reset_5 : decode b_M_reset 5 = .ok (.aload_n 0, 1) := by decide +kernel
theorem d_M_reset_6 : decode b_M_reset 6 = .ok (.iconst 0, 1) := by decide +kernel
theorem d_M_reset_7 : decode b_M_reset 7 = .ok (.putfield 124, 3) := by decide +kernel
theorem d_M_reset_10 : decode b_M_reset 10 = .ok (.aload_n 0, 1) := by decide +kernel
theorem d_M_reset_11 : decode b_M_reset 11 = .ok (.iconst 0, 1) := by decide +kernel
theorem d_M_reset_12 : decode b_M_reset 12 = .ok (.putfield 127, 3) := by decide +kernel
theorem d_M_reset_15 : decode b_M_reset 15 = .ok (.aload_n 0, 1) := by decide +kernel
theorem d_M_reset_16 : decode b_M_reset 16 = .ok (.iconst 0, 1) := by decide +kernel
theorem d_M_reset_17 : decode b_M_reset 17 = .ok (.putfield 131, 3) := by decide +kernel
theorem d_M_reset_20 : decode b_M_reset 20 = .ok (.aload_n 0, 1) := by decide +kernel
theorem d_M_reset_21 : decode b_M_reset 21 = .ok (.iconst 0, 1) := by decide +kernel
theorem d_M_reset_22 : decode b_M_reset 22 = .ok (.putfield 134, 3) := by decide +kernel
theorem d_M_reset_25 : decode b_M_reset 25 = .ok (.aload_n 0, 1) := by decide +kernel
theorem d_M_reset_26 : decode b_M_reset 26 = .ok (.iconst 0, 1) := by decide +kernel
theorem d_M_reset_27 : decode b_M_reset 27 = .ok (.putfield 137, 3) := by decide +kernel
theorem d_M_reset_30 : decode b_M_reset 30 = .ok (.aload_n 0, 1) := by decide +kernel
theorem d_M_reset_31 : decode b_M_reset 31 = .ok (.iconst 0, 1) := by decide +kernel
theorem d_M_reset_32 : decode b_M_reset 32 = .ok (.putfield 140, 3) := by decide +kernel
theorem d_M_reset_35 : decode b_M_reset 35 = .ok (.aload_n 0, 1) := by decide +kernel
theorem d_M_reset_36 : decode b_M_reset 36 = .ok (.iconst 0, 1) := by decide +kernel
theorem d_M_reset_37 : decode b_M_reset 37 = .ok (.putfield 143, 3) := by decide +kernel
theorem d_M_reset_40 : decode b_M_reset 40 = .ok (.aload_n 0, 1) := by decide +kernel
theorem d_M_reset_41 : decode b_M_reset 41 = .ok (.iconst 0, 1) := by decide +kernel
theorem d_M_reset_42 : decode b_M_reset 42 = .ok (.putfield 146, 3) := by decide +kernel
theorem d_M_reset_45 : decode b_M_reset 45 = .ok (.return_, 1) := by decide +kernel
