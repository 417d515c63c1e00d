theorem d_M_locals_0 : decode b_M_locals 0 = .ok (.aload_n 0, 1) := by decide +kernel
theorem d_M_locals_1 : decode b_M_locals 1 = .ok (.iload_n 1, 1) := by decide +kernel
theorem d_M_locals_2 : decode b_M_locals 2 = .ok (.invokevirtual 258, 3) := by decide +kernel
theorem d_M_locals_5 : decode b_M_locals 5 = .ok (.aload_n 0, 1) := by decide +kernel
theorem d_M_locals_6 : decode b_M_locals 6 = .ok (.getfield 81, 3) := by decide +kernel
theorem d_M_locals_9 : decode b_M_locals 9 = .ok (.iload_n 1, 1) := by decide +kernel
theorem d_M_locals_10 : decode b_M_locals 10 = .ok (.iaload, 1) := by decide +kernel
theorem d_M_locals_11 : decode b_M_locals 11 = .ok (.iadd, 1) := by decide +kernel
theorem d_M_locals_12 : decode b_M_locals 12 = .ok (.ireturn, 1) := by decide +kernel
theorem d_M_width_0 : decode b_M_width 0 = .ok (.iload_n 0, 1) := by decide +kernel
theorem d_M_width_1 : decode b_M_width 1 = .ok (.bipush 40, 2) := by decide +kernel
theorem d_M_width_3 : decode b_M_width 3 = .ok (.if_icmp .eq 9, 3) := by decide +kernel
theorem d_M_width_6 : decode b_M_width 6 = .ok (.iload_n 0, 1) := by decide +kernel
theorem d_M_width_7 : decode b_M_width 7 = .ok (.bipush 54, 2) := by decide +kernel
theorem d_M_width_9 : decode b_M_width 9 = .ok (.if_icmp .ne 7, 3) := by decide +kernel
theorem d_M_width_12 : decode b_M_width 12 = .ok (.iconst 4, 1) := by decide +kernel
theorem d_M_width_13 : decode b_M_width 13 = .ok (.goto 26, 3) := by decide +kernel
theorem d_M_width_16 : decode b_M_width 16 = .ok (.iload_n 0, 1) := by decide +kernel
theorem d_M_width_17 : decode b_M_width 17 = .ok (.bipush 44, 2) := by decide +kernel
theorem d_M_width_19 : decode b_M_width 19 = .ok (.if_icmp .eq 15, 3) := by decide +kernel
theorem d_M_width_22 : decode b_M_width 22 = .ok (.iload_n 0, 1) := by decide +kernel
theorem d_M_width_23 : decode b_M_width 23 = .ok (.bipush 45, 2) := by decide +kernel
theorem d_M_width_25 : decode b_M_width 25 = .ok (.if_icmp .eq 9, 3) := by decide +kernel
theorem d_M_width_28 : decode b_M_width 28 = .ok (.iload_n 0, 1) := by decide +kernel
theorem d_M_width_29 : decode b_M_width 29 = .ok (.bipush 58, 2) := by decide +kernel
theorem d_M_width_31 : decode b_M_width 31 = .ok (.if_icmp .ne 7, 3) := by decide +kernel
theorem d_M_width_34 : decode b_M_width 34 = .ok (.iconst 1, 1) := by decide +kernel
theorem d_M_width_35 : decode b_M_width 35 = .ok (.goto 4, 3) := by decide +kernel
theorem d_M_width_38 : decode b_M_width 38 = .ok (.iconst 2, 1) := by decide +kernel
theorem d_M_width_39 : decode b_M_width 39 = .ok (.ireturn, 1) := by decide +kernel
theorem d_M_takes_0 : decode b_M_takes 0 = .ok (.iload_n 0, 1) := by decide +kernel
theorem d_M_takes_1 : decode b_M_takes 1 = .ok (.bipush 27, 2) := by decide +kernel
theorem d_M_takes_3 : decode b_M_takes 3 = .ok (.if_icmp .ne 5, 3) := by decide +kernel
theorem d_M_takes_6 : decode b_M_takes 6 = .ok (.iconst 3, 1) := by decide +kernel
theorem d_M_takes_7 : decode b_M_takes 7 = .ok (.ireturn, 1) := by decide +kernel
theorem d_M_takes_8 : decode b_M_takes 8 = .ok (.iload_n 0, 1) := by decide +kernel
theorem d_M_takes_9 : decode b_M_takes 9 = .ok (.bipush 26, 2) := by decide +kernel
theorem d_M_takes_11 : decode b_M_takes 11 = .ok (.if_icmp .eq 57, 3) := by decide +kernel
theorem d_M_takes_14 : decode b_M_takes 14 = .ok (.iload_n 0, 1) := by decide +kernel
theorem d_M_takes_15 : decode b_M_takes 15 = .ok (.bipush 33, 2) := by decide +kernel
theorem d_M_takes_17 : decode b_M_takes 17 = .ok (.if_icmp .eq 51, 3) := by decide +kernel
theorem d_M_takes_20 : decode b_M_takes 20 = .ok (.iload_n 0, 1) := by decide +kernel
theorem d_M_takes_21 : decode b_M_takes 21 = .ok (.bipush 34, 2) := by decide +kernel
theorem d_M_takes_23 : decode b_M_takes 23 = .ok (.if_icmp .eq 45, 3) := by decide +kernel
theorem d_M_takes_26 : decode b_M_takes 26 = .ok (.iload_n 0, 1) := by decide +kernel
theorem d_M_takes_27 : decode b_M_takes 27 = .ok (.bipush 36, 2) := by decide +kernel
theorem d_M_takes_29 : decode b_M_takes 29 = .ok (.if_icmp .eq 39, 3) := by decide +kernel
theorem d_M_takes_32 : decode b_M_takes 32 = .ok (.iload_n 0, 1) := by decide +kernel
theorem d_M_takes_33 : decode b_M_takes 33 = .ok (.bipush 64, 2) := by decide +kernel
theorem d_M_takes_35 : decode b_M_takes 35 = .ok (.if_icmp .eq 33, 3) := by decide +kernel
theorem d_M_takes_38 : decode b_M_takes 38 = .ok (.iload_n 0, 1) := by decide +kernel
theorem d_M_takes_39 : decode b_M_takes 39 = .ok (.bipush 69, 2) := by decide +kernel
theorem d_M_takes_41 : decode b_M_takes 41 = .ok (.if_icmp .eq 27, 3) := by decide +kernel
theorem d_M_takes_44 : decode b_M_takes 44 = .ok (.iload_n 0, 1) := by decide +kernel
theorem d_M_takes_45 : decode b_M_takes 45 = .ok (.bipush 39, 2) := by decide +kernel
theorem d_M_takes_47 : decode b_M_takes 47 = .ok (.if_icmp .le 9, 3) := by decide +kernel
theorem d_M_takes_50 : decode b_M_takes 50 = .ok (.iload_n 0, 1) := by decide +kernel
theorem d_M_takes_51 : decode b_M_takes 51 = .ok (.bipush 48, 2) := by decide +kernel
theorem d_M_takes_53 : decode b_M_takes 53 = .ok (.if_icmp .lt 15, 3) := by decide +kernel
theorem d_M_takes_56 : decode b_M_takes 56 = .ok (.iload_n 0, 1) := by decide +kernel
theorem d_M_takes_57 : decode b_M_takes 57 = .ok (.bipush 102, 2) := by decide +kernel
theorem d_M_takes_59 : decode b_M_takes 59 = .ok (.if_icmp .le 11, 3) := by decide +kernel
theorem d_M_takes_62 : decode b_M_takes 62 = .ok (.iload_n 0, 1) := by decide +kernel
theorem d_M_takes_63 : decode b_M_takes 63 = .ok (.bipush 106, 2) := by decide +kernel
theorem d_M_takes_65 : decode b_M_takes 65 = .ok (.if_icmp .ge 5, 3) := by decide +kernel
theorem d_M_takes_68 : decode b_M_takes 68 = .ok (.iconst 1, 1) := by decide +kernel
theorem d_M_takes_69 : decode b_M_takes 69 = .ok (.ireturn, 1) := by decide +kernel
theorem d_M_takes_70 : decode b_M_takes 70 = .ok (.iload_n 0, 1) := by decide +kernel
theorem d_M_takes_71 : decode b_M_takes 71 = .ok (.bipush 53, 2) := by decide +kernel
theorem d_M_takes_73 : decode b_M_takes 73 = .ok (.if_icmp .le 9, 3) := by decide +kernel
theorem d_M_takes_76 : decode b_M_takes 76 = .ok (.iload_n 0, 1) := by decide +kernel
theorem d_M_takes_77 : decode b_M_takes 77 = .ok (.bipush 60, 2) := by decide +kernel
theorem d_M_takes_79 : decode b_M_takes 79 = .ok (.if_icmp .lt 21, 3) := by decide +kernel
theorem d_M_takes_82 : decode b_M_takes 82 = .ok (.iload_n 0, 1) := by decide +kernel
theorem d_M_takes_83 : decode b_M_takes 83 = .ok (.bipush 69, 2) := by decide +kernel
theorem d_M_takes_85 : decode b_M_takes 85 = .ok (.if_icmp .le 9, 3) := by decide +kernel
theorem d_M_takes_88 : decode b_M_takes 88 = .ok (.iload_n 0, 1) := by decide +kernel
theorem d_M_takes_89 : decode b_M_takes 89 = .ok (.bipush 80, 2) := by decide +kernel
theorem d_M_takes_91 : decode b_M_takes 91 = .ok (.if_icmp .lt 9, 3) := by decide +kernel
theorem d_M_takes_94 : decode b_M_takes 94 = .ok (.iload_n 0, 1) := by decide +kernel
theorem d_M_takes_95 : decode b_M_takes 95 = .ok (.bipush 105, 2) := by decide +kernel
theorem d_M_takes_97 : decode b_M_takes 97 = .ok (.if_icmp .le 7, 3) := by decide +kernel
theorem d_M_takes_100 : decode b_M_takes 100 = .ok (.iconst 2, 1) := by decide +kernel
theorem d_M_takes_101 : decode b_M_takes 101 = .ok (.goto 4, 3) := by decide +kernel
theorem d_M_takes_104 : decode b_M_takes 104 = .ok (.iconst 0, 1) := by decide +kernel
theorem d_M_takes_105 : decode b_M_takes 105 = .ok (.ireturn, 1) := by decide +kernel
theorem d_M_gives_0 : decode b_M_gives 0 = .ok (.iload_n 0, 1) := by decide +kernel
theorem d_M_gives_1 : decode b_M_gives 1 = .ok (.bipush 26, 2) := by decide +kernel
theorem d_M_gives_3 : decode b_M_gives 3 = .ok (.if_icmp .eq 31, 3) := by decide +kernel
theorem d_M_gives_6 : decode b_M_gives 6 = .ok (.iload_n 0, 1) := by decide +kernel
theorem d_M_gives_7 : decode b_M_gives 7 = .ok (.bipush 33, 2) := by decide +kernel
theorem d_M_gives_9 : decode b_M_gives 9 = .ok (.if_icmp .eq 25, 3) := by decide +kernel
theorem d_M_gives_12 : decode b_M_gives 12 = .ok (.iload_n 0, 1) := by decide +kernel
theorem d_M_gives_13 : decode b_M_gives 13 = .ok (.bipush 36, 2) := by decide +kernel
theorem d_M_gives_15 : decode b_M_gives 15 = .ok (.if_icmp .eq 19, 3) := by decide +kernel
theorem d_M_gives_18 : decode b_M_gives 18 = .ok (.iload_n 0, 1) := by decide +kernel
theorem d_M_gives_19 : decode b_M_gives 19 = .ok (.bipush 54, 2) := by decide +kernel
theorem d_M_gives_21 : decode b_M_gives 21 = .ok (.if_icmp .lt 9, 3) := by decide +kernel
theorem d_M_gives_24 : decode b_M_gives 24 = .ok (.iload_n 0, 1) := by decide +kernel
theorem d_M_gives_25 : decode b_M_gives 25 = .ok (.bipush 59, 2) := by decide +kernel
theorem d_M_gives_27 : decode b_M_gives 27 = .ok (.if_icmp .le 7, 3) := by decide +kernel
theorem d_M_gives_30 : decode b_M_gives 30 = .ok (.iconst 1, 1) := by decide +kernel
theorem d_M_gives_31 : decode b_M_gives 31 = .ok (.goto 4, 3) := by decide +kernel
theorem d_M_gives_34 : decode b_M_gives 34 = .ok (.iconst 0, 1) := by decide +kernel
theorem d_M_gives_35 : decode b_M_gives 35 = .ok (.ireturn, 1) := by decide +kernel
theorem d_M_validatePlain_0 : decode b_M_validatePlain 0 = .ok (.aload_n 0, 1) := by decide +kernel
theorem d_M_validatePlain_1 : decode b_M_validatePlain 1 = .ok (.getfield 51, 3) := by decide +kernel
theorem d_M_validatePlain_4 : decode b_M_validatePlain 4 = .ok (.iload_n 2, 1) := by decide +kernel
theorem d_M_validatePlain_5 : decode b_M_validatePlain 5 = .ok (.iaload, 1) := by decide +kernel
theorem d_M_validatePlain_6 : decode b_M_validatePlain 6 = .ok (.istore_n 3, 1) := by decide +kernel
theorem d_M_validatePlain_7 : decode b_M_validatePlain 7 = .ok (.iload_n 3, 1) := by decide +kernel
theorem d_M_validatePlain_8 : decode b_M_validatePlain 8 = .ok (.bipush 31, 2) := by decide +kernel
theorem d_M_validatePlain_10 : decode b_M_validatePlain 10 = .ok (.if_icmp .le 35, 3) := by decide +kernel
theorem d_M_validatePlain_13 : decode b_M_validatePlain 13 = .ok (.iload_n 3, 1) := by decide +kernel
theorem d_M_validatePlain_14 : decode b_M_validatePlain 14 = .ok (.bipush 35, 2) := by decide +kernel
theorem d_M_validatePlain_16 : decode b_M_validatePlain 16 = .ok (.if_icmp .ge 29, 3) := by decide +kernel
theorem d_M_validatePlain_19 : decode b_M_validatePlain 19 = .ok (.aload_n 0, 1) := by decide +kernel
theorem d_M_validatePlain_20 : decode b_M_validatePlain 20 = .ok (.aload_n 0, 1) := by decide +kernel
theorem d_M_validatePlain_21 : decode b_M_validatePlain 21 = .ok (.getfield 54, 3) := by decide +kernel
theorem d_M_validatePlain_24 : decode b_M_validatePlain 24 = .ok (.iload_n 2, 1) := by decide +kernel
theorem d_M_validatePlain_25 : decode b_M_validatePlain 25 = .ok (.laload, 1) := by decide +kernel
theorem d_M_validatePlain_26 : decode b_M_validatePlain 26 = .ok (.aload_n 0, 1) := by decide +kernel
theorem d_M_validatePlain_27 : decode b_M_validatePlain 27 = .ok (.iload_n 1, 1) := by decide +kernel
theorem d_M_validatePlain_28 : decode b_M_validatePlain 28 = .ok (.invokevirtual 322, 3) := by decide +kernel
theorem d_M_validatePlain_31 : decode b_M_validatePlain 31 = .ok (.i2l, 1) := by decide +kernel
theorem d_M_validatePlain_32 : decode b_M_validatePlain 32 = .ok (.lcmp, 1) := by decide +kernel
theorem d_M_validatePlain_33 : decode b_M_validatePlain 33 = .ok (.ifCond .ge 7, 3) := by decide +kernel
theorem d_M_validatePlain_36 : decode b_M_validatePlain 36 = .ok (.iconst 1, 1) := by decide +kernel
theorem d_M_validatePlain_37 : decode b_M_validatePlain 37 = .ok (.goto 4, 3) := by decide +kernel
theorem d_M_validatePlain_40 : decode b_M_validatePlain 40 = .ok (.iconst 0, 1) := by decide +kernel
theorem d_M_validatePlain_41 : decode b_M_validatePlain 41 = .ok (.iconst 3, 1) := by decide +kernel
theorem d_M_validatePlain_42 : decode b_M_validatePlain 42 = .ok (.invokevirtual 158, 3) := by decide +kernel
theorem d_M_validatePlain_45 : decode b_M_validatePlain 45 = .ok (.iload_n 3, 1) := by decide +kernel
theorem d_M_validatePlain_46 : decode b_M_validatePlain 46 = .ok (.bipush 35, 2) := by decide +kernel
theorem d_M_validatePlain_48 : decode b_M_validatePlain 48 = .ok (.if_icmp .eq 9, 3) := by decide +kernel
theorem d_M_validatePlain_51 : decode b_M_validatePlain 51 = .ok (.iload_n 3, 1) := by decide +kernel
theorem d_M_validatePlain_52 : decode b_M_validatePlain 52 = .ok (.bipush 36, 2) := by decide +kernel
theorem d_M_validatePlain_54 : decode b_M_validatePlain 54 = .ok (.if_icmp .ne 28, 3) := by decide +kernel
theorem d_M_validatePlain_57 : decode b_M_validatePlain 57 = .ok (.aload_n 0, 1) := by decide +kernel
theorem d_M_validatePlain_58 : decode b_M_validatePlain 58 = .ok (.aload_n 0, 1) := by decide +kernel
theorem d_M_validatePlain_59 : decode b_M_validatePlain 59 = .ok (.getfield 54, 3) := by decide +kernel
theorem d_M_validatePlain_62 : decode b_M_validatePlain 62 = .ok (.iload_n 2, 1) := by decide +kernel
theorem d_M_validatePlain_63 : decode b_M_validatePlain 63 = .ok (.laload, 1) := by decide +kernel
theorem d_M_validatePlain_64 : decode b_M_validatePlain 64 = .ok (.aload_n 0, 1) := by decide +kernel
theorem d_M_validatePlain_65 : decode b_M_validatePlain 65 = .ok (.getfield 243, 3) := by decide +kernel
theorem d_M_validatePlain_68 : decode b_M_validatePlain 68 = .ok (.i2l, 1) := by decide +kernel
theorem d_M_validatePlain_69 : decode b_M_validatePlain 69 = .ok (.lcmp, 1) := by decide +kernel
theorem d_M_validatePlain_70 : decode b_M_validatePlain 70 = .ok (.ifCond .ge 7, 3) := by decide +kernel
theorem d_M_validatePlain_73 : decode b_M_validatePlain 73 = .ok (.iconst 1, 1) := by decide +kernel
theorem d_M_validatePlain_74 : decode b_M_validatePlain 74 = .ok (.goto 4, 3) := by decide +kernel
theorem d_M_validatePlain_77 : decode b_M_validatePlain 77 = .ok (.iconst 0, 1) := by decide +kernel
theorem d_M_validatePlain_78 : decode b_M_validatePlain 78 = .ok (.iconst 3, 1) := by decide +kernel
theorem d_M_validatePlain_79 : decode b_M_validatePlain 79 = .ok (.invokevirtual 158, 3) := by decide +kernel
theorem d_M_validatePlain_82 : decode b_M_validatePlain 82 = .ok (.aload_n 0, 1) := by decide +kernel
theorem d_M_validatePlain_83 : decode b_M_validatePlain 83 = .ok (.getfield 149, 3) := by decide +kernel
theorem d_M_validatePlain_86 : decode b_M_validatePlain 86 = .ok (.ifCond .ne 26, 3) := by decide +kernel
theorem d_M_validatePlain_89 : decode b_M_validatePlain 89 = .ok (.iload_n 3, 1) := by decide +kernel
theorem d_M_validatePlain_90 : decode b_M_validatePlain 90 = .ok (.bipush 36, 2) := by decide +kernel
theorem d_M_validatePlain_92 : decode b_M_validatePlain 92 = .ok (.if_icmp .ne 20, 3) := by decide +kernel
theorem d_M_validatePlain_95 : decode b_M_validatePlain 95 = .ok (.aload_n 0, 1) := by decide +kernel
theorem d_M_validatePlain_96 : decode b_M_validatePlain 96 = .ok (.aload_n 0, 1) := by decide +kernel
theorem d_M_validatePlain_97 : decode b_M_validatePlain 97 = .ok (.getfield 23, 3) := by decide +kernel
theorem d_M_validatePlain_100 : decode b_M_validatePlain 100 = .ok (.aload_n 0, 1) := by decide +kernel
theorem d_M_validatePlain_101 : decode b_M_validatePlain 101 = .ok (.getfield 54, 3) := by decide +kernel
theorem d_M_validatePlain_104 : decode b_M_validatePlain 104 = .ok (.iload_n 2, 1) := by decide +kernel
theorem d_M_validatePlain_105 : decode b_M_validatePlain 105 = .ok (.laload, 1) := by decide +kernel
theorem d_M_validatePlain_106 : decode b_M_validatePlain 106 = .ok (.l2i, 1) := by decide +kernel
theorem d_M_validatePlain_107 : decode b_M_validatePlain 107 = .ok (.baload, 1) := by decide +kernel
theorem d_M_validatePlain_108 : decode b_M_validatePlain 108 = .ok (.iconst 3, 1) := by decide +kernel
theorem d_M_validatePlain_109 : decode b_M_validatePlain 109 = .ok (.invokevirtual 158, 3) := by decide +kernel
theorem d_M_validatePlain_112 : decode b_M_validatePlain 112 = .ok (.iload_n 3, 1) := by decide +kernel
theorem d_M_validatePlain_113 : decode b_M_validatePlain 113 = .ok (.bipush 39, 2) := by decide +kernel
theorem d_M_validatePlain_115 : decode b_M_validatePlain 115 = .ok (.if_icmp .le 26, 3) := by decide +kernel
theorem d_M_validatePlain_118 : decode b_M_validatePlain 118 = .ok (.iload_n 3, 1) := by decide +kernel
theorem d_M_validatePlain_119 : decode b_M_validatePlain 119 = .ok (.bipush 65, 2) := by decide +kernel
theorem d_M_validatePlain_121 : decode b_M_validatePlain 121 = .ok (.if_icmp .ge 20, 3) := by decide +kernel
theorem d_M_validatePlain_124 : decode b_M_validatePlain 124 = .ok (.aload_n 0, 1) := by decide +kernel
theorem d_M_validatePlain_125 : decode b_M_validatePlain 125 = .ok (.aload_n 0, 1) := by decide +kernel
theorem d_M_validatePlain_126 : decode b_M_validatePlain 126 = .ok (.getfield 222, 3) := by decide +kernel
theorem d_M_validatePlain_129 : decode b_M_validatePlain 129 = .ok (.ifCond .le 7, 3) := by decide +kernel
theorem d_M_validatePlain_132 : decode b_M_validatePlain 132 = .ok (.iconst 1, 1) := by decide +kernel
theorem d_M_validatePlain_133 : decode b_M_validatePlain 133 = .ok (.goto 4, 3) := by decide +kernel
theorem d_M_validatePlain_136 : decode b_M_validatePlain 136 = .ok (.iconst 0, 1) := by decide +kernel
theorem d_M_validatePlain_137 : decode b_M_validatePlain 137 = .ok (.iconst 3, 1) := by decide +kernel
theorem d_M_validatePlain_138 : decode b_M_validatePlain 138 = .ok (.invokevirtual 158, 3) := by decide +kernel
theorem d_M_validatePlain_141 : decode b_M_validatePlain 141 = .ok (.iload_n 3, 1) := by decide +kernel
theorem d_M_validatePlain_142 : decode b_M_validatePlain 142 = .ok (.bipush 39, 2) := by decide +kernel
theorem d_M_validatePlain_144 : decode b_M_validatePlain 144 = .ok (.if_icmp .le 48, 3) := by decide +kernel
theorem d_M_validatePlain_147 : decode b_M_validatePlain 147 = .ok (.iload_n 3, 1) := by decide +kernel
theorem d_M_validatePlain_148 : decode b_M_validatePlain 148 = .ok (.bipush 60, 2) := by decide +kernel
theorem d_M_validatePlain_150 : decode b_M_validatePlain 150 = .ok (.if_icmp .ge 42, 3) := by decide +kernel
theorem d_M_validatePlain_153 : decode b_M_validatePlain 153 = .ok (.aload_n 0, 1) := by decide +kernel
theorem d_M_validatePlain_154 : decode b_M_validatePlain 154 = .ok (.aload_n 0, 1) := by decide +kernel
theorem d_M_validatePlain_155 : decode b_M_validatePlain 155 = .ok (.getfield 54, 3) := by decide +kernel
theorem d_M_validatePlain_158 : decode b_M_validatePlain 158 = .ok (.iload_n 2, 1) := by decide +kernel
theorem d_M_validatePlain_159 : decode b_M_validatePlain 159 = .ok (.laload, 1) := by decide +kernel
theorem d_M_validatePlain_160 : decode b_M_validatePlain 160 = .ok (.iload_n 3, 1) := by decide +kernel
theorem d_M_validatePlain_161 : decode b_M_validatePlain 161 = .ok (.invokestatic 325, 3) := by decide +kernel
theorem d_M_validatePlain_164 : decode b_M_validatePlain 164 = .ok (.iconst 4, 1) := by decide +kernel
theorem d_M_validatePlain_165 : decode b_M_validatePlain 165 = .ok (.if_icmp .ne 7, 3) := by decide +kernel
theorem d_M_validatePlain_168 : decode b_M_validatePlain 168 = .ok (.iconst 2, 1) := by decide +kernel
theorem d_M_validatePlain_169 : decode b_M_validatePlain 169 = .ok (.goto 9, 3) := by decide +kernel
theorem d_M_validatePlain_172 : decode b_M_validatePlain 172 = .ok (.iload_n 3, 1) := by decide +kernel
theorem d_M_validatePlain_173 : decode b_M_validatePlain 173 = .ok (.invokestatic 325, 3) := by decide +kernel
theorem d_M_validatePlain_176 : decode b_M_validatePlain 176 = .ok (.iconst 1, 1) := by decide +kernel
theorem d_M_validatePlain_177 : decode b_M_validatePlain 177 = .ok (.isub, 1) := by decide +kernel
theorem d_M_validatePlain_178 : decode b_M_validatePlain 178 = .ok (.i2l, 1) := by decide +kernel
theorem d_M_validatePlain_179 : decode b_M_validatePlain 179 = .ok (.lcmp, 1) := by decide +kernel
theorem d_M_validatePlain_180 : decode b_M_validatePlain 180 = .ok (.ifCond .gt 7, 3) := by decide +kernel
theorem d_M_validatePlain_183 : decode b_M_validatePlain 183 = .ok (.iconst 1, 1) := by decide +kernel
theorem d_M_validatePlain_184 : decode b_M_validatePlain 184 = .ok (.goto 4, 3) := by decide +kernel
theorem d_M_validatePlain_187 : decode b_M_validatePlain 187 = .ok (.iconst 0, 1) := by decide +kernel
theorem d_M_validatePlain_188 : decode b_M_validatePlain 188 = .ok (.iconst 3, 1) := by decide +kernel
theorem d_M_validatePlain_189 : decode b_M_validatePlain 189 = .ok (.invokevirtual 158, 3) := by decide +kernel
theorem d_M_validatePlain_192 : decode b_M_validatePlain 192 = .ok (.aload_n 0, 1) := by decide +kernel
theorem d_M_validatePlain_193 : decode b_M_validatePlain 193 = .ok (.getfield 149, 3) := by decide +kernel
theorem d_M_validatePlain_196 : decode b_M_validatePlain 196 = .ok (.ifCond .le 4, 3) := by decide +kernel
theorem d_M_validatePlain_199 : decode b_M_validatePlain 199 = .ok (.return_, 1) := by decide +kernel
theorem d_M_validatePlain_200 : decode b_M_validatePlain 200 = .ok (.aload_n 0, 1) := by decide +kernel
theorem d_M_validatePlain_201 : decode b_M_validatePlain 201 = .ok (.iload_n 3, 1) := by decide +kernel
theorem d_M_validatePlain_202 : decode b_M_validatePlain 202 = .ok (.invokestatic 328, 3) := by decide +kernel
theorem d_M_validatePlain_205 : decode b_M_validatePlain 205 = .ok (.invokevirtual 312, 3) := by decide +kernel
theorem d_M_validatePlain_208 : decode b_M_validatePlain 208 = .ok (.iload_n 3, 1) := by decide +kernel
theorem d_M_validatePlain_209 : decode b_M_validatePlain 209 = .ok (.invokestatic 331, 3) := by decide +kernel
theorem d_M_validatePlain_212 : decode b_M_validatePlain 212 = .ok (.ifCond .eq 8, 3) := by decide +kernel
theorem d_M_validatePlain_215 : decode b_M_validatePlain 215 = .ok (.aload_n 0, 1) := by decide +kernel
theorem d_M_validatePlain_216 : decode b_M_validatePlain 216 = .ok (.iconst 1, 1) := by decide +kernel
theorem d_M_validatePlain_217 : decode b_M_validatePlain 217 = .ok (.invokevirtual 315, 3) := by decide +kernel
theorem d_M_validatePlain_220 : decode b_M_validatePlain 220 = .ok (.return_, 1) := by decide +kernel
theorem d_M_validateBlock_0 : decode b_M_validateBlock 0 = .ok (.aload_n 0, 1) := by decide +kernel
theorem d_M_validateBlock_1 : decode b_M_validateBlock 1 = .ok (.getfield 51, 3) := by decide +kernel
theorem d_M_validateBlock_4 : decode b_M_validateBlock 4 = .ok (.iload_n 2, 1) := by decide +kernel
theorem d_M_validateBlock_5 : decode b_M_validateBlock 5 = .ok (.iaload, 1) := by decide +kernel
theorem d_M_validateBlock_6 : decode b_M_validateBlock 6 = .ok (.istore_n 3, 1) := by decide +kernel
theorem d_M_validateBlock_7 : decode b_M_validateBlock 7 = .ok (.iload_n 3, 1) := by decide +kernel
theorem d_M_validateBlock_8 : decode b_M_validateBlock 8 = .ok (.ifCond .ne 10, 3) := by decide +kernel
theorem d_M_validateBlock_11 : decode b_M_validateBlock 11 = .ok (.aload_n 0, 1) := by decide +kernel
theorem d_M_validateBlock_12 : decode b_M_validateBlock 12 = .ok (.invokevirtual 309, 3) := by decide +kernel
theorem d_M_validateBlock_15 : decode b_M_validateBlock 15 = .ok (.goto 226, 3) := by decide +kernel
theorem d_M_validateBlock_18 : decode b_M_validateBlock 18 = .ok (.iload_n 3, 1) := by decide +kernel
theorem d_M_validateBlock_19 : decode b_M_validateBlock 19 = .ok (.iconst 2, 1) := by decide +kernel
theorem d_M_validateBlock_20 : decode b_M_validateBlock 20 = .ok (.if_icmp .lt 68, 3) := by decide +kernel
theorem d_M_validateBlock_23 : decode b_M_validateBlock 23 = .ok (.iload_n 3, 1) := by decide +kernel
theorem d_M_validateBlock_24 : decode b_M_validateBlock 24 = .ok (.iconst 4, 1) := by decide +kernel
theorem d_M_validateBlock_25 : decode b_M_validateBlock 25 = .ok (.if_icmp .gt 63, 3) := by decide +kernel
theorem d_M_validateBlock_28 : decode b_M_validateBlock 28 = .ok (.aload_n 0, 1) := by decide +kernel
theorem d_M_validateBlock_29 : decode b_M_validateBlock 29 = .ok (.iload_n 3, 1) := by decide +kernel
theorem d_M_validateBlock_30 : decode b_M_validateBlock 30 = .ok (.iconst 4, 1) := by decide +kernel
theorem d_M_validateBlock_31 : decode b_M_validateBlock 31 = .ok (.if_icmp .ne 7, 3) := by decide +kernel
theorem d_M_validateBlock_34 : decode b_M_validateBlock 34 = .ok (.iconst 1, 1) := by decide +kernel
theorem d_M_validateBlock_35 : decode b_M_validateBlock 35 = .ok (.goto 4, 3) := by decide +kernel
theorem d_M_validateBlock_38 : decode b_M_validateBlock 38 = .ok (.iconst 0, 1) := by decide +kernel
theorem d_M_validateBlock_39 : decode b_M_validateBlock 39 = .ok (.invokevirtual 312, 3) := by decide +kernel
theorem d_M_validateBlock_42 : decode b_M_validateBlock 42 = .ok (.aload_n 0, 1) := by decide +kernel
theorem d_M_validateBlock_43 : decode b_M_validateBlock 43 = .ok (.dup, 1) := by decide +kernel
theorem d_M_validateBlock_44 : decode b_M_validateBlock 44 = .ok (.getfield 289, 3) := by decide +kernel
theorem d_M_validateBlock_47 : decode b_M_validateBlock 47 = .ok (.iconst 1, 1) := by decide +kernel
theorem d_M_validateBlock_48 : decode b_M_validateBlock 48 = .ok (.iadd, 1) := by decide +kernel
theorem d_M_validateBlock_49 : decode b_M_validateBlock 49 = .ok (.putfield 289, 3) := by decide +kernel
theorem d_M_validateBlock_52 : decode b_M_validateBlock 52 = .ok (.aload_n 0, 1) := by decide +kernel
theorem d_M_validateBlock_53 : decode b_M_validateBlock 53 = .ok (.getfield 87, 3) := by decide +kernel
theorem d_M_validateBlock_56 : decode b_M_validateBlock 56 = .ok (.aload_n 0, 1) := by decide +kernel
theorem d_M_validateBlock_57 : decode b_M_validateBlock 57 = .ok (.getfield 289, 3) := by decide +kernel
theorem d_M_validateBlock_60 : decode b_M_validateBlock 60 = .ok (.iload_n 2, 1) := by decide +kernel
theorem d_M_validateBlock_61 : decode b_M_validateBlock 61 = .ok (.iastore, 1) := by decide +kernel
theorem d_M_validateBlock_62 : decode b_M_validateBlock 62 = .ok (.aload_n 0, 1) := by decide +kernel
theorem d_M_validateBlock_63 : decode b_M_validateBlock 63 = .ok (.getfield 90, 3) := by decide +kernel
theorem d_M_validateBlock_66 : decode b_M_validateBlock 66 = .ok (.aload_n 0, 1) := by decide +kernel
theorem d_M_validateBlock_67 : decode b_M_validateBlock 67 = .ok (.getfield 289, 3) := by decide +kernel
theorem d_M_validateBlock_70 : decode b_M_validateBlock 70 = .ok (.aload_n 0, 1) := by decide +kernel
theorem d_M_validateBlock_71 : decode b_M_validateBlock 71 = .ok (.getfield 286, 3) := by decide +kernel
theorem d_M_validateBlock_74 : decode b_M_validateBlock 74 = .ok (.iastore, 1) := by decide +kernel
theorem d_M_validateBlock_75 : decode b_M_validateBlock 75 = .ok (.aload_n 0, 1) := by decide +kernel
theorem d_M_validateBlock_76 : decode b_M_validateBlock 76 = .ok (.getfield 93, 3) := by decide +kernel
theorem d_M_validateBlock_79 : decode b_M_validateBlock 79 = .ok (.aload_n 0, 1) := by decide +kernel
theorem d_M_validateBlock_80 : decode b_M_validateBlock 80 = .ok (.getfield 289, 3) := by decide +kernel
theorem d_M_validateBlock_83 : decode b_M_validateBlock 83 = .ok (.iconst 0, 1) := by decide +kernel
theorem d_M_validateBlock_84 : decode b_M_validateBlock 84 = .ok (.bastore, 1) := by decide +kernel
theorem d_M_validateBlock_85 : decode b_M_validateBlock 85 = .ok (.goto 156, 3) := by decide +kernel
theorem d_M_validateBlock_88 : decode b_M_validateBlock 88 = .ok (.iload_n 3, 1) := by decide +kernel
theorem d_M_validateBlock_89 : decode b_M_validateBlock 89 = .ok (.iconst 5, 1) := by decide +kernel
theorem d_M_validateBlock_90 : decode b_M_validateBlock 90 = .ok (.if_icmp .eq 9, 3) := by decide +kernel
theorem d_M_validateBlock_93 : decode b_M_validateBlock 93 = .ok (.iload_n 3, 1) := by decide +kernel
theorem d_M_validateBlock_94 : decode b_M_validateBlock 94 = .ok (.bipush 11, 2) := by decide +kernel
theorem d_M_validateBlock_96 : decode b_M_validateBlock 96 = .ok (.if_icmp .ne 145, 3) := by decide +kernel
theorem d_M_validateBlock_99 : decode b_M_validateBlock 99 = .ok (.aload_n 0, 1) := by decide +kernel
theorem d_M_validateBlock_100 : decode b_M_validateBlock 100 = .ok (.getfield 87, 3) := by decide +kernel
theorem d_M_validateBlock_103 : decode b_M_validateBlock 103 = .ok (.aload_n 0, 1) := by decide +kernel
theorem d_M_validateBlock_104 : decode b_M_validateBlock 104 = .ok (.getfield 289, 3) := by decide +kernel
theorem d_M_validateBlock_107 : decode b_M_validateBlock 107 = .ok (.iaload, 1) := by decide +kernel
theorem d_M_validateBlock_108 : decode b_M_validateBlock 108 = .ok (.istore 4, 2) := by decide +kernel
theorem d_M_validateBlock_110 : decode b_M_validateBlock 110 = .ok (.aload_n 0, 1) := by decide +kernel
theorem d_M_validateBlock_111 : decode b_M_validateBlock 111 = .ok (.iload_n 1, 1) := by decide +kernel
theorem d_M_validateBlock_112 : decode b_M_validateBlock 112 = .ok (.iload 4, 2) := by decide +kernel
theorem d_M_validateBlock_114 : decode b_M_validateBlock 114 = .ok (.invokevirtual 295, 3) := by decide +kernel
theorem d_M_validateBlock_117 : decode b_M_validateBlock 117 = .ok (.istore 5, 2) := by decide +kernel
theorem d_M_validateBlock_119 : decode b_M_validateBlock 119 = .ok (.aload_n 0, 1) := by decide +kernel
theorem d_M_validateBlock_120 : decode b_M_validateBlock 120 = .ok (.iload 5, 2) := by decide +kernel
theorem d_M_validateBlock_122 : decode b_M_validateBlock 122 = .ok (.invokevirtual 312, 3) := by decide +kernel
theorem d_M_validateBlock_125 : decode b_M_validateBlock 125 = .ok (.aload_n 0, 1) := by decide +kernel
theorem d_M_validateBlock_126 : decode b_M_validateBlock 126 = .ok (.aload_n 0, 1) := by decide +kernel
theorem d_M_validateBlock_127 : decode b_M_validateBlock 127 = .ok (.getfield 286, 3) := by decide +kernel
theorem d_M_validateBlock_130 : decode b_M_validateBlock 130 = .ok (.aload_n 0, 1) := by decide +kernel
theorem d_M_validateBlock_131 : decode b_M_validateBlock 131 = .ok (.getfield 90, 3) := by decide +kernel
theorem d_M_validateBlock_134 : decode b_M_validateBlock 134 = .ok (.aload_n 0, 1) := by decide +kernel
theorem d_M_validateBlock_135 : decode b_M_validateBlock 135 = .ok (.getfield 289, 3) := by decide +kernel
theorem d_M_validateBlock_138 : decode b_M_validateBlock 138 = .ok (.iaload, 1) := by decide +kernel
theorem d_M_validateBlock_139 : decode b_M_validateBlock 139 = .ok (.if_icmp .ne 7, 3) := by decide +kernel
theorem d_M_validateBlock_142 : decode b_M_validateBlock 142 = .ok (.iconst 1, 1) := by decide +kernel
theorem d_M_validateBlock_143 : decode b_M_validateBlock 143 = .ok (.goto 4, 3) := by decide +kernel
theorem d_M_validateBlock_146 : decode b_M_validateBlock 146 = .ok (.iconst 0, 1) := by decide +kernel
theorem d_M_validateBlock_147 : decode b_M_validateBlock 147 = .ok (.iconst 3, 1) := by decide +kernel
theorem d_M_validateBlock_148 : decode b_M_validateBlock 148 = .ok (.invokevirtual 158, 3) := by decide +kernel
theorem d_M_validateBlock_151 : decode b_M_validateBlock 151 = .ok (.aload_n 0, 1) := by decide +kernel
theorem d_M_validateBlock_152 : decode b_M_validateBlock 152 = .ok (.iload_n 3, 1) := by decide +kernel
theorem d_M_validateBlock_153 : decode b_M_validateBlock 153 = .ok (.iconst 5, 1) := by decide +kernel
theorem d_M_validateBlock_154 : decode b_M_validateBlock 154 = .ok (.if_icmp .eq 36, 3) := by decide +kernel
theorem d_M_validateBlock_157 : decode b_M_validateBlock 157 = .ok (.iload 4, 2) := by decide +kernel
theorem d_M_validateBlock_159 : decode b_M_validateBlock 159 = .ok (.iconst (-1), 1) := by decide +kernel
theorem d_M_validateBlock_160 : decode b_M_validateBlock 160 = .ok (.if_icmp .eq 30, 3) := by decide +kernel
theorem d_M_validateBlock_163 : decode b_M_validateBlock 163 = .ok (.aload_n 0, 1) := by decide +kernel
theorem d_M_validateBlock_164 : decode b_M_validateBlock 164 = .ok (.getfield 51, 3) := by decide +kernel
theorem d_M_validateBlock_167 : decode b_M_validateBlock 167 = .ok (.iload 4, 2) := by decide +kernel
theorem d_M_validateBlock_169 : decode b_M_validateBlock 169 = .ok (.iaload, 1) := by decide +kernel
theorem d_M_validateBlock_170 : decode b_M_validateBlock 170 = .ok (.iconst 4, 1) := by decide +kernel
theorem d_M_validateBlock_171 : decode b_M_validateBlock 171 = .ok (.if_icmp .ne 19, 3) := by decide +kernel
theorem d_M_validateBlock_174 : decode b_M_validateBlock 174 = .ok (.aload_n 0, 1) := by decide +kernel
theorem d_M_validateBlock_175 : decode b_M_validateBlock 175 = .ok (.getfield 66, 3) := by decide +kernel
theorem d_M_validateBlock_178 : decode b_M_validateBlock 178 = .ok (.iload 4, 2) := by decide +kernel
theorem d_M_validateBlock_180 : decode b_M_validateBlock 180 = .ok (.iaload, 1) := by decide +kernel
theorem d_M_validateBlock_181 : decode b_M_validateBlock 181 = .ok (.iconst (-1), 1) := by decide +kernel
theorem d_M_validateBlock_182 : decode b_M_validateBlock 182 = .ok (.if_icmp .ne 8, 3) := by decide +kernel
theorem d_M_validateBlock_185 : decode b_M_validateBlock 185 = .ok (.iload 5, 2) := by decide +kernel
theorem d_M_validateBlock_187 : decode b_M_validateBlock 187 = .ok (.ifCond .ne 7, 3) := by decide +kernel
theorem d_M_validateBlock_190 : decode b_M_validateBlock 190 = .ok (.iconst 1, 1) := by decide +kernel
theorem d_M_validateBlock_191 : decode b_M_validateBlock 191 = .ok (.goto 4, 3) := by decide +kernel
theorem d_M_validateBlock_194 : decode b_M_validateBlock 194 = .ok (.iconst 0, 1) := by decide +kernel
theorem d_M_validateBlock_195 : decode b_M_validateBlock 195 = .ok (.iconst 3, 1) := by decide +kernel
theorem d_M_validateBlock_196 : decode b_M_validateBlock 196 = .ok (.invokevirtual 158, 3) := by decide +kernel
theorem d_M_validateBlock_199 : decode b_M_validateBlock 199 = .ok (.iload_n 3, 1) := by decide +kernel
theorem d_M_validateBlock_200 : decode b_M_validateBlock 200 = .ok (.iconst 5, 1) := by decide +kernel
theorem d_M_validateBlock_201 : decode b_M_validateBlock 201 = .ok (.if_icmp .ne 14, 3) := by decide +kernel
theorem d_M_validateBlock_204 : decode b_M_validateBlock 204 = .ok (.aload_n 0, 1) := by decide +kernel
theorem d_M_validateBlock_205 : decode b_M_validateBlock 205 = .ok (.getfield 93, 3) := by decide +kernel
theorem d_M_validateBlock_208 : decode b_M_validateBlock 208 = .ok (.aload_n 0, 1) := by decide +kernel
theorem d_M_validateBlock_209 : decode b_M_validateBlock 209 = .ok (.getfield 289, 3) := by decide +kernel
theorem d_M_validateBlock_212 : decode b_M_validateBlock 212 = .ok (.iconst 0, 1) := by decide +kernel
theorem d_M_validateBlock_213 : decode b_M_validateBlock 213 = .ok (.bastore, 1) := by decide +kernel
theorem d_M_validateBlock_214 : decode b_M_validateBlock 214 = .ok (.return_, 1) := by decide +kernel
theorem d_M_validateBlock_215 : decode b_M_validateBlock 215 = .ok (.aload_n 0, 1) := by decide +kernel
theorem d_M_validateBlock_216 : decode b_M_validateBlock 216 = .ok (.dup, 1) := by decide +kernel
theorem d_M_validateBlock_217 : decode b_M_validateBlock 217 = .ok (.getfield 289, 3) := by decide +kernel
theorem d_M_validateBlock_220 : decode b_M_validateBlock 220 = .ok (.iload 4, 2) := by decide +kernel
theorem d_M_validateBlock_222 : decode b_M_validateBlock 222 = .ok (.iconst (-1), 1) := by decide +kernel
theorem d_M_validateBlock_223 : decode b_M_validateBlock 223 = .ok (.if_icmp .ne 7, 3) := by decide +kernel
theorem d_M_validateBlock_226 : decode b_M_validateBlock 226 = .ok (.iconst 0, 1) := by decide +kernel
theorem d_M_validateBlock_227 : decode b_M_validateBlock 227 = .ok (.goto 4, 3) := by decide +kernel
theorem d_M_validateBlock_230 : decode b_M_validateBlock 230 = .ok (.iconst 1, 1) := by decide +kernel
theorem d_M_validateBlock_231 : decode b_M_validateBlock 231 = .ok (.isub, 1) := by decide +kernel
theorem d_M_validateBlock_232 : decode b_M_validateBlock 232 = .ok (.putfield 289, 3) := by decide +kernel
theorem d_M_validateBlock_235 : decode b_M_validateBlock 235 = .ok (.aload_n 0, 1) := by decide +kernel
theorem d_M_validateBlock_236 : decode b_M_validateBlock 236 = .ok (.iload 5, 2) := by decide +kernel
theorem d_M_validateBlock_238 : decode b_M_validateBlock 238 = .ok (.invokevirtual 315, 3) := by decide +kernel
theorem d_M_validateBlock_241 : decode b_M_validateBlock 241 = .ok (.return_, 1) := by decide +kernel
theorem d_M_validateBody_0 : decode b_M_validateBody 0 = .ok (.aload_n 0, 1) := by decide +kernel
theorem d_M_validateBody_1 : decode b_M_validateBody 1 = .ok (.iconst 0, 1) := by decide +kernel
theorem d_M_validateBody_2 : decode b_M_validateBody 2 = .ok (.putfield 289, 3) := by decide +kernel
theorem d_M_validateBody_5 : decode b_M_validateBody 5 = .ok (.aload_n 0, 1) := by decide +kernel
theorem d_M_validateBody_6 : decode b_M_validateBody 6 = .ok (.iconst 0, 1) := by decide +kernel
theorem d_M_validateBody_7 : decode b_M_validateBody 7 = .ok (.putfield 286, 3) := by decide +kernel
theorem d_M_validateBody_10 : decode b_M_validateBody 10 = .ok (.aload_n 0, 1) := by decide +kernel
theorem d_M_validateBody_11 : decode b_M_validateBody 11 = .ok (.getfield 87, 3) := by decide +kernel
theorem d_M_validateBody_14 : decode b_M_validateBody 14 = .ok (.iconst 0, 1) := by decide +kernel
theorem d_M_validateBody_15 : decode b_M_validateBody 15 = .ok (.iconst (-1), 1) := by decide +kernel
theorem d_M_validateBody_16 : decode b_M_validateBody 16 = .ok (.iastore, 1) := by decide +kernel
theorem d_M_validateBody_17 : decode b_M_validateBody 17 = .ok (.aload_n 0, 1) := by decide +kernel
theorem d_M_validateBody_18 : decode b_M_validateBody 18 = .ok (.getfield 90, 3) := by decide +kernel
theorem d_M_validateBody_21 : decode b_M_validateBody 21 = .ok (.iconst 0, 1) := by decide +kernel
theorem d_M_validateBody_22 : decode b_M_validateBody 22 = .ok (.iconst 0, 1) := by decide +kernel
theorem d_M_validateBody_23 : decode b_M_validateBody 23 = .ok (.iastore, 1) := by decide +kernel
theorem d_M_validateBody_24 : decode b_M_validateBody 24 = .ok (.aload_n 0, 1) := by decide +kernel
theorem d_M_validateBody_25 : decode b_M_validateBody 25 = .ok (.getfield 93, 3) := by decide +kernel
theorem d_M_validateBody_28 : decode b_M_validateBody 28 = .ok (.iconst 0, 1) := by decide +kernel
theorem d_M_validateBody_29 : decode b_M_validateBody 29 = .ok (.iconst 0, 1) := by decide +kernel
theorem d_M_validateBody_30 : decode b_M_validateBody 30 = .ok (.bastore, 1) := by decide +kernel
theorem d_M_validateBody_31 : decode b_M_validateBody 31 = .ok (.aload_n 0, 1) := by decide +kernel
theorem d_M_validateBody_32 : decode b_M_validateBody 32 = .ok (.getfield 75, 3) := by decide +kernel
theorem d_M_validateBody_35 : decode b_M_validateBody 35 = .ok (.iload_n 1, 1) := by decide +kernel
theorem d_M_validateBody_36 : decode b_M_validateBody 36 = .ok (.iaload, 1) := by decide +kernel
theorem d_M_validateBody_37 : decode b_M_validateBody 37 = .ok (.istore_n 2, 1) := by decide +kernel
theorem d_M_validateBody_38 : decode b_M_validateBody 38 = .ok (.iload_n 2, 1) := by decide +kernel
theorem d_M_validateBody_39 : decode b_M_validateBody 39 = .ok (.aload_n 0, 1) := by decide +kernel
theorem d_M_validateBody_40 : decode b_M_validateBody 40 = .ok (.getfield 78, 3) := by decide +kernel
theorem d_M_validateBody_43 : decode b_M_validateBody 43 = .ok (.iload_n 1, 1) := by decide +kernel
theorem d_M_validateBody_44 : decode b_M_validateBody 44 = .ok (.iaload, 1) := by decide +kernel
theorem d_M_validateBody_45 : decode b_M_validateBody 45 = .ok (.if_icmp .gt 75, 3) := by decide +kernel
theorem d_M_validateBody_48 : decode b_M_validateBody 48 = .ok (.aload_n 0, 1) := by decide +kernel
theorem d_M_validateBody_49 : decode b_M_validateBody 49 = .ok (.getfield 149, 3) := by decide +kernel
theorem d_M_validateBody_52 : decode b_M_validateBody 52 = .ok (.ifCond .ne 68, 3) := by decide +kernel
theorem d_M_validateBody_55 : decode b_M_validateBody 55 = .ok (.aload_n 0, 1) := by decide +kernel
theorem d_M_validateBody_56 : decode b_M_validateBody 56 = .ok (.getfield 69, 3) := by decide +kernel
theorem d_M_validateBody_59 : decode b_M_validateBody 59 = .ok (.iload_n 2, 1) := by decide +kernel
theorem d_M_validateBody_60 : decode b_M_validateBody 60 = .ok (.aload_n 0, 1) := by decide +kernel
theorem d_M_validateBody_61 : decode b_M_validateBody 61 = .ok (.getfield 286, 3) := by decide +kernel
theorem d_M_validateBody_64 : decode b_M_validateBody 64 = .ok (.iastore, 1) := by decide +kernel
theorem d_M_validateBody_65 : decode b_M_validateBody 65 = .ok (.aload_n 0, 1) := by decide +kernel
theorem d_M_validateBody_66 : decode b_M_validateBody 66 = .ok (.getfield 51, 3) := by decide +kernel
theorem d_M_validateBody_69 : decode b_M_validateBody 69 = .ok (.iload_n 2, 1) := by decide +kernel
theorem d_M_validateBody_70 : decode b_M_validateBody 70 = .ok (.iaload, 1) := by decide +kernel
theorem d_M_validateBody_71 : decode b_M_validateBody 71 = .ok (.istore_n 3, 1) := by decide +kernel
theorem d_M_validateBody_72 : decode b_M_validateBody 72 = .ok (.iload_n 3, 1) := by decide +kernel
theorem d_M_validateBody_73 : decode b_M_validateBody 73 = .ok (.bipush 6, 2) := by decide +kernel
theorem d_M_validateBody_75 : decode b_M_validateBody 75 = .ok (.if_icmp .lt 9, 3) := by decide +kernel
theorem d_M_validateBody_78 : decode b_M_validateBody 78 = .ok (.iload_n 3, 1) := by decide +kernel
theorem d_M_validateBody_79 : decode b_M_validateBody 79 = .ok (.bipush 11, 2) := by decide +kernel
theorem d_M_validateBody_81 : decode b_M_validateBody 81 = .ok (.if_icmp .ne 12, 3) := by decide +kernel
theorem d_M_validateBody_84 : decode b_M_validateBody 84 = .ok (.aload_n 0, 1) := by decide +kernel
theorem d_M_validateBody_85 : decode b_M_validateBody 85 = .ok (.iload_n 1, 1) := by decide +kernel
theorem d_M_validateBody_86 : decode b_M_validateBody 86 = .ok (.iload_n 2, 1) := by decide +kernel
theorem d_M_validateBody_87 : decode b_M_validateBody 87 = .ok (.invokevirtual 299, 3) := by decide +kernel
theorem d_M_validateBody_90 : decode b_M_validateBody 90 = .ok (.goto 24, 3) := by decide +kernel
theorem d_M_validateBody_93 : decode b_M_validateBody 93 = .ok (.iload_n 3, 1) := by decide +kernel
theorem d_M_validateBody_94 : decode b_M_validateBody 94 = .ok (.bipush 17, 2) := by decide +kernel
theorem d_M_validateBody_96 : decode b_M_validateBody 96 = .ok (.if_icmp .ge 12, 3) := by decide +kernel
theorem d_M_validateBody_99 : decode b_M_validateBody 99 = .ok (.aload_n 0, 1) := by decide +kernel
theorem d_M_validateBody_100 : decode b_M_validateBody 100 = .ok (.iload_n 1, 1) := by decide +kernel
theorem d_M_validateBody_101 : decode b_M_validateBody 101 = .ok (.iload_n 2, 1) := by decide +kernel
theorem d_M_validateBody_102 : decode b_M_validateBody 102 = .ok (.invokevirtual 303, 3) := by decide +kernel
theorem d_M_validateBody_105 : decode b_M_validateBody 105 = .ok (.goto 9, 3) := by decide +kernel
theorem d_M_validateBody_108 : decode b_M_validateBody 108 = .ok (.aload_n 0, 1) := by decide +kernel
theorem d_M_validateBody_109 : decode b_M_validateBody 109 = .ok (.iload_n 1, 1) := by decide +kernel
theorem d_M_validateBody_110 : decode b_M_validateBody 110 = .ok (.iload_n 2, 1) := by decide +kernel
theorem d_M_validateBody_111 : decode b_M_validateBody 111 = .ok (.invokevirtual 306, 3) := by decide +kernel
theorem d_M_validateBody_114 : decode b_M_validateBody 114 = .ok (.iinc 2 1, 3) := by decide +kernel
theorem d_M_validateBody_117 : decode b_M_validateBody 117 = .ok (.goto (-79), 3) := by decide +kernel
theorem d_M_validateBody_120 : decode b_M_validateBody 120 = .ok (.return_, 1) := by decide +kernel
theorem d_M_validate_0 : decode b_M_validate 0 = .ok (.iconst 0, 1) := by decide +kernel
theorem d_M_validate_1 : decode b_M_validate 1 = .ok (.istore_n 1, 1) := by decide +kernel
theorem d_M_validate_2 : decode b_M_validate 2 = .ok (.iload_n 1, 1) := by decide +kernel
theorem d_M_validate_3 : decode b_M_validate 3 = .ok (.aload_n 0, 1) := by decide +kernel
theorem d_M_validate_4 : decode b_M_validate 4 = .ok (.getfield 219, 3) := by decide +kernel
theorem d_M_validate_7 : decode b_M_validate 7 = .ok (.if_icmp .ge 29, 3) := by decide +kernel
theorem d_M_validate_10 : decode b_M_validate 10 = .ok (.aload_n 0, 1) := by decide +kernel
theorem d_M_validate_11 : decode b_M_validate 11 = .ok (.aload_n 0, 1) := by decide +kernel
theorem d_M_validate_12 : decode b_M_validate 12 = .ok (.getfield 16, 3) := by decide +kernel
theorem d_M_validate_15 : decode b_M_validate 15 = .ok (.iload_n 1, 1) := by decide +kernel
theorem d_M_validate_16 : decode b_M_validate 16 = .ok (.iaload, 1) := by decide +kernel
theorem d_M_validate_17 : decode b_M_validate 17 = .ok (.iconst 2, 1) := by decide +kernel
theorem d_M_validate_18 : decode b_M_validate 18 = .ok (.if_icmp .ge 7, 3) := by decide +kernel
theorem d_M_validate_21 : decode b_M_validate 21 = .ok (.iconst 1, 1) := by decide +kernel
theorem d_M_validate_22 : decode b_M_validate 22 = .ok (.goto 4, 3) := by decide +kernel
theorem d_M_validate_25 : decode b_M_validate 25 = .ok (.iconst 0, 1) := by decide +kernel
theorem d_M_validate_26 : decode b_M_validate 26 = .ok (.iconst 3, 1) := by decide +kernel
theorem d_M_validate_27 : decode b_M_validate 27 = .ok (.invokevirtual 158, 3) := by decide +kernel
theorem d_M_validate_30 : decode b_M_validate 30 = .ok (.iinc 1 1, 3) := by decide +kernel
theorem d_M_validate_33 : decode b_M_validate 33 = .ok (.goto (-31), 3) := by decide +kernel
theorem d_M_validate_36 : decode b_M_validate 36 = .ok (.iconst 0, 1) := by decide +kernel
theorem d_M_validate_37 : decode b_M_validate 37 = .ok (.istore_n 1, 1) := by decide +kernel
theorem d_M_validate_38 : decode b_M_validate 38 = .ok (.iload_n 1, 1) := by decide +kernel
theorem d_M_validate_39 : decode b_M_validate 39 = .ok (.aload_n 0, 1) := by decide +kernel
theorem d_M_validate_40 : decode b_M_validate 40 = .ok (.getfield 188, 3) := by decide +kernel
theorem d_M_validate_43 : decode b_M_validate 43 = .ok (.if_icmp .ge 34, 3) := by decide +kernel
theorem d_M_validate_46 : decode b_M_validate 46 = .ok (.aload_n 0, 1) := by decide +kernel
theorem d_M_validate_47 : decode b_M_validate 47 = .ok (.aload_n 0, 1) := by decide +kernel
theorem d_M_validate_48 : decode b_M_validate 48 = .ok (.getfield 19, 3) := by decide +kernel
theorem d_M_validate_51 : decode b_M_validate 51 = .ok (.iload_n 1, 1) := by decide +kernel
theorem d_M_validate_52 : decode b_M_validate 52 = .ok (.laload, 1) := by decide +kernel
theorem d_M_validate_53 : decode b_M_validate 53 = .ok (.aload_n 0, 1) := by decide +kernel
theorem d_M_validate_54 : decode b_M_validate 54 = .ok (.getfield 219, 3) := by decide +kernel
theorem d_M_validate_57 : decode b_M_validate 57 = .ok (.i2l, 1) := by decide +kernel
theorem d_M_validate_58 : decode b_M_validate 58 = .ok (.lcmp, 1) := by decide +kernel
theorem d_M_validate_59 : decode b_M_validate 59 = .ok (.ifCond .ge 7, 3) := by decide +kernel
theorem d_M_validate_62 : decode b_M_validate 62 = .ok (.iconst 1, 1) := by decide +kernel
theorem d_M_validate_63 : decode b_M_validate 63 = .ok (.goto 4, 3) := by decide +kernel
theorem d_M_validate_66 : decode b_M_validate 66 = .ok (.iconst 0, 1) := by decide +kernel
theorem d_M_validate_67 : decode b_M_validate 67 = .ok (.iconst 3, 1) := by decide +kernel
theorem d_M_validate_68 : decode b_M_validate 68 = .ok (.invokevirtual 158, 3) := by decide +kernel
theorem d_M_validate_71 : decode b_M_validate 71 = .ok (.iinc 1 1, 3) := by decide +kernel
theorem d_M_validate_74 : decode b_M_validate 74 = .ok (.goto (-36), 3) := by decide +kernel
theorem d_M_validate_77 : decode b_M_validate 77 = .ok (.aload_n 0, 1) := by decide +kernel
theorem d_M_validate_78 : decode b_M_validate 78 = .ok (.aload_n 0, 1) := by decide +kernel
theorem d_M_validate_79 : decode b_M_validate 79 = .ok (.getfield 222, 3) := by decide +kernel
theorem d_M_validate_82 : decode b_M_validate 82 = .ok (.ifCond .eq 22, 3) := by decide +kernel
theorem d_M_validate_85 : decode b_M_validate 85 = .ok (.aload_n 0, 1) := by decide +kernel
theorem d_M_validate_86 : decode b_M_validate 86 = .ok (.getfield 228, 3) := by decide +kernel
theorem d_M_validate_89 : decode b_M_validate 89 = .ok (.ifCond .eq 15, 3) := by decide +kernel
theorem d_M_validate_92 : decode b_M_validate 92 = .ok (.aload_n 0, 1) := by decide +kernel
theorem d_M_validate_93 : decode b_M_validate 93 = .ok (.getfield 237, 3) := by decide +kernel
theorem d_M_validate_96 : decode b_M_validate 96 = .ok (.aload_n 0, 1) := by decide +kernel
theorem d_M_validate_97 : decode b_M_validate 97 = .ok (.getfield 231, 3) := by decide +kernel
theorem d_M_validate_100 : decode b_M_validate 100 = .ok (.lcmp, 1) := by decide +kernel
theorem d_M_validate_101 : decode b_M_validate 101 = .ok (.ifCond .lt 7, 3) := by decide +kernel
theorem d_M_validate_104 : decode b_M_validate 104 = .ok (.iconst 1, 1) := by decide +kernel
theorem d_M_validate_105 : decode b_M_validate 105 = .ok (.goto 4, 3) := by decide +kernel
theorem d_M_validate_108 : decode b_M_validate 108 = .ok (.iconst 0, 1) := by decide +kernel
theorem d_M_validate_109 : decode b_M_validate 109 = .ok (.iconst 3, 1) := by decide +kernel
theorem d_M_validate_110 : decode b_M_validate 110 = .ok (.invokevirtual 158, 3) := by decide +kernel
theorem d_M_validate_113 : decode b_M_validate 113 = .ok (.iconst 0, 1) := by decide +kernel
theorem d_M_validate_114 : decode b_M_validate 114 = .ok (.istore_n 1, 1) := by decide +kernel
theorem d_M_validate_115 : decode b_M_validate 115 = .ok (.iload_n 1, 1) := by decide +kernel
theorem d_M_validate_116 : decode b_M_validate 116 = .ok (.aload_n 0, 1) := by decide +kernel
theorem d_M_validate_117 : decode b_M_validate 117 = .ok (.getfield 246, 3) := by decide +kernel
theorem d_M_validate_120 : decode b_M_validate 120 = .ok (.if_icmp .ge 19, 3) := by decide +kernel
theorem d_M_validate_123 : decode b_M_validate 123 = .ok (.aload_n 0, 1) := by decide +kernel
theorem d_M_validate_124 : decode b_M_validate 124 = .ok (.aload_n 0, 1) := by decide +kernel
theorem d_M_validate_125 : decode b_M_validate 125 = .ok (.iload_n 1, 1) := by decide +kernel
theorem d_M_validate_126 : decode b_M_validate 126 = .ok (.invokevirtual 276, 3) := by decide +kernel
theorem d_M_validate_129 : decode b_M_validate 129 = .ok (.iconst 3, 1) := by decide +kernel
theorem d_M_validate_130 : decode b_M_validate 130 = .ok (.invokevirtual 158, 3) := by decide +kernel
theorem d_M_validate_133 : decode b_M_validate 133 = .ok (.iinc 1 1, 3) := by decide +kernel
theorem d_M_validate_136 : decode b_M_validate 136 = .ok (.goto (-21), 3) := by decide +kernel
theorem d_M_validate_139 : decode b_M_validate 139 = .ok (.iconst 0, 1) := by decide +kernel
theorem d_M_validate_140 : decode b_M_validate 140 = .ok (.istore_n 1, 1) := by decide +kernel
theorem d_M_validate_141 : decode b_M_validate 141 = .ok (.iload_n 1, 1) := by decide +kernel
theorem d_M_validate_142 : decode b_M_validate 142 = .ok (.aload_n 0, 1) := by decide +kernel
theorem d_M_validate_143 : decode b_M_validate 143 = .ok (.getfield 188, 3) := by decide +kernel
theorem d_M_validate_146 : decode b_M_validate 146 = .ok (.if_icmp .ge 21, 3) := by decide +kernel
theorem d_M_validate_149 : decode b_M_validate 149 = .ok (.aload_n 0, 1) := by decide +kernel
theorem d_M_validate_150 : decode b_M_validate 150 = .ok (.getfield 149, 3) := by decide +kernel
theorem d_M_validate_153 : decode b_M_validate 153 = .ok (.ifCond .ne 14, 3) := by decide +kernel
theorem d_M_validate_156 : decode b_M_validate 156 = .ok (.aload_n 0, 1) := by decide +kernel
theorem d_M_validate_157 : decode b_M_validate 157 = .ok (.iload_n 1, 1) := by decide +kernel
theorem d_M_validate_158 : decode b_M_validate 158 = .ok (.invokevirtual 279, 3) := by decide +kernel
theorem d_M_validate_161 : decode b_M_validate 161 = .ok (.iinc 1 1, 3) := by decide +kernel
theorem d_M_validate_164 : decode b_M_validate 164 = .ok (.goto (-23), 3) := by decide +kernel
theorem d_M_validate_167 : decode b_M_validate 167 = .ok (.iconst 0, 1) := by decide +kernel
theorem d_M_validate_168 : decode b_M_validate 168 = .ok (.istore_n 1, 1) := by decide +kernel
theorem d_M_validate_169 : decode b_M_validate 169 = .ok (.iload_n 1, 1) := by decide +kernel
theorem d_M_validate_170 : decode b_M_validate 170 = .ok (.aload_n 0, 1) := by decide +kernel
theorem d_M_validate_171 : decode b_M_validate 171 = .ok (.getfield 249, 3) := by decide +kernel
theorem d_M_validate_174 : decode b_M_validate 174 = .ok (.if_icmp .ge 37, 3) := by decide +kernel
theorem d_M_validate_177 : decode b_M_validate 177 = .ok (.aload_n 0, 1) := by decide +kernel
theorem d_M_validate_178 : decode b_M_validate 178 = .ok (.aload_n 0, 1) := by decide +kernel
theorem d_M_validate_179 : decode b_M_validate 179 = .ok (.getfield 222, 3) := by decide +kernel
theorem d_M_validate_182 : decode b_M_validate 182 = .ok (.ifCond .le 18, 3) := by decide +kernel
theorem d_M_validate_185 : decode b_M_validate 185 = .ok (.aload_n 0, 1) := by decide +kernel
theorem d_M_validate_186 : decode b_M_validate 186 = .ok (.getfield 39, 3) := by decide +kernel
theorem d_M_validate_189 : decode b_M_validate 189 = .ok (.iload_n 1, 1) := by decide +kernel
theorem d_M_validate_190 : decode b_M_validate 190 = .ok (.laload, 1) := by decide +kernel
theorem d_M_validate_191 : decode b_M_validate 191 = .ok (.lconst 0, 1) := by decide +kernel
theorem d_M_validate_192 : decode b_M_validate 192 = .ok (.lcmp, 1) := by decide +kernel
theorem d_M_validate_193 : decode b_M_validate 193 = .ok (.ifCond .ne 7, 3) := by decide +kernel
theorem d_M_validate_196 : decode b_M_validate 196 = .ok (.iconst 1, 1) := by decide +kernel
theorem d_M_validate_197 : decode b_M_validate 197 = .ok (.goto 4, 3) := by decide +kernel
theorem d_M_validate_200 : decode b_M_validate 200 = .ok (.iconst 0, 1) := by decide +kernel
theorem d_M_validate_201 : decode b_M_validate 201 = .ok (.iconst 3, 1) := by decide +kernel
theorem d_M_validate_202 : decode b_M_validate 202 = .ok (.invokevirtual 158, 3) := by decide +kernel
theorem d_M_validate_205 : decode b_M_validate 205 = .ok (.iinc 1 1, 3) := by decide +kernel
theorem d_M_validate_208 : decode b_M_validate 208 = .ok (.goto (-39), 3) := by decide +kernel
theorem d_M_validate_211 : decode b_M_validate 211 = .ok (.iconst 0, 1) := by decide +kernel
theorem d_M_validate_212 : decode b_M_validate 212 = .ok (.istore_n 1, 1) := by decide +kernel
theorem d_M_validate_213 : decode b_M_validate 213 = .ok (.iload_n 1, 1) := by decide +kernel
theorem d_M_validate_214 : decode b_M_validate 214 = .ok (.aload_n 0, 1) := by decide +kernel
theorem d_M_validate_215 : decode b_M_validate 215 = .ok (.getfield 249, 3) := by decide +kernel
theorem d_M_validate_218 : decode b_M_validate 218 = .ok (.if_icmp .ge 50, 3) := by decide +kernel
theorem d_M_validate_221 : decode b_M_validate 221 = .ok (.aload_n 0, 1) := by decide +kernel
theorem d_M_validate_222 : decode b_M_validate 222 = .ok (.aload_n 0, 1) := by decide +kernel
theorem d_M_validate_223 : decode b_M_validate 223 = .ok (.getfield 42, 3) := by decide +kernel
theorem d_M_validate_226 : decode b_M_validate 226 = .ok (.iload_n 1, 1) := by decide +kernel
theorem d_M_validate_227 : decode b_M_validate 227 = .ok (.iaload, 1) := by decide +kernel
theorem d_M_validate_228 : decode b_M_validate 228 = .ok (.i2l, 1) := by decide +kernel
theorem d_M_validate_229 : decode b_M_validate 229 = .ok (.ldc2_w 282, 3) := by decide +kernel
theorem d_M_validate_232 : decode b_M_validate 232 = .ok (.land, 1) := by decide +kernel
theorem d_M_validate_233 : decode b_M_validate 233 = .ok (.aload_n 0, 1) := by decide +kernel
theorem d_M_validate_234 : decode b_M_validate 234 = .ok (.getfield 48, 3) := by decide +kernel
theorem d_M_validate_237 : decode b_M_validate 237 = .ok (.iload_n 1, 1) := by decide +kernel
theorem d_M_validate_238 : decode b_M_validate 238 = .ok (.iaload, 1) := by decide +kernel
theorem d_M_validate_239 : decode b_M_validate 239 = .ok (.i2l, 1) := by decide +kernel
theorem d_M_validate_240 : decode b_M_validate 240 = .ok (.ladd, 1) := by decide +kernel
theorem d_M_validate_241 : decode b_M_validate 241 = .ok (.ldc2_w 284, 3) := by decide +kernel
theorem d_M_validate_244 : decode b_M_validate 244 = .ok (.aload_n 0, 1) := by decide +kernel
theorem d_M_validate_245 : decode b_M_validate 245 = .ok (.getfield 231, 3) := by decide +kernel
theorem d_M_validate_248 : decode b_M_validate 248 = .ok (.lmul, 1) := by decide +kernel
theorem d_M_validate_249 : decode b_M_validate 249 = .ok (.lcmp, 1) := by decide +kernel
theorem d_M_validate_250 : decode b_M_validate 250 = .ok (.ifCond .gt 7, 3) := by decide +kernel
theorem d_M_validate_253 : decode b_M_validate 253 = .ok (.iconst 1, 1) := by decide +kernel
theorem d_M_validate_254 : decode b_M_validate 254 = .ok (.goto 4, 3) := by decide +kernel
theorem d_M_validate_257 : decode b_M_validate 257 = .ok (.iconst 0, 1) := by decide +kernel
theorem d_M_validate_258 : decode b_M_validate 258 = .ok (.iconst 4, 1) := by decide +kernel
theorem d_M_validate_259 : decode b_M_validate 259 = .ok (.invokevirtual 158, 3) := by decide +kernel
theorem d_M_validate_262 : decode b_M_validate 262 = .ok (.iinc 1 1, 3) := by decide +kernel
theorem d_M_validate_265 : decode b_M_validate 265 = .ok (.goto (-52), 3) := by decide +kernel
theorem d_M_validate_268 : decode b_M_validate 268 = .ok (.return_, 1) := by decide +kernel
theorem d_M_load_0 : decode b_M_load 0 = .ok (.aload_n 0, 1) := by decide +kernel
theorem d_M_load_1 : decode b_M_load 1 = .ok (.iconst 0, 1) := by decide +kernel
theorem d_M_load_2 : decode b_M_load 2 = .ok (.putfield 120, 3) := by decide +kernel
theorem d_M_load_5 : decode b_M_load 5 = .ok (.aload_n 0, 1) := by decide +kernel
theorem d_M_load_6 : decode b_M_load 6 = .ok (.getfield 127, 3) := by decide +kernel
theorem d_M_load_9 : decode b_M_load 9 = .ok (.ifCond .eq 5, 3) := by decide +kernel
theorem d_M_load_12 : decode b_M_load 12 = .ok (.iconst 5, 1) := by decide +kernel
theorem d_M_load_13 : decode b_M_load 13 = .ok (.ireturn, 1) := by decide +kernel
theorem d_M_load_14 : decode b_M_load 14 = .ok (.aload_n 0, 1) := by decide +kernel
theorem d_M_load_15 : decode b_M_load 15 = .ok (.iconst 0, 1) := by decide +kernel
theorem d_M_load_16 : decode b_M_load 16 = .ok (.putfield 149, 3) := by decide +kernel
theorem d_M_load_19 : decode b_M_load 19 = .ok (.aload_n 0, 1) := by decide +kernel
theorem d_M_load_20 : decode b_M_load 20 = .ok (.iconst 0, 1) := by decide +kernel
theorem d_M_load_21 : decode b_M_load 21 = .ok (.putfield 219, 3) := by decide +kernel
theorem d_M_load_24 : decode b_M_load 24 = .ok (.aload_n 0, 1) := by decide +kernel
theorem d_M_load_25 : decode b_M_load 25 = .ok (.iconst 0, 1) := by decide +kernel
theorem d_M_load_26 : decode b_M_load 26 = .ok (.putfield 188, 3) := by decide +kernel
theorem d_M_load_29 : decode b_M_load 29 = .ok (.aload_n 0, 1) := by decide +kernel
theorem d_M_load_30 : decode b_M_load 30 = .ok (.iconst 0, 1) := by decide +kernel
theorem d_M_load_31 : decode b_M_load 31 = .ok (.putfield 185, 3) := by decide +kernel
theorem d_M_load_34 : decode b_M_load 34 = .ok (.aload_n 0, 1) := by decide +kernel
theorem d_M_load_35 : decode b_M_load 35 = .ok (.iconst 0, 1) := by decide +kernel
theorem d_M_load_36 : decode b_M_load 36 = .ok (.putfield 222, 3) := by decide +kernel
theorem d_M_load_39 : decode b_M_load 39 = .ok (.aload_n 0, 1) := by decide +kernel
theorem d_M_load_40 : decode b_M_load 40 = .ok (.iconst 0, 1) := by decide +kernel
theorem d_M_load_41 : decode b_M_load 41 = .ok (.putfield 228, 3) := by decide +kernel
theorem d_M_load_44 : decode b_M_load 44 = .ok (.aload_n 0, 1) := by decide +kernel
theorem d_M_load_45 : decode b_M_load 45 = .ok (.lconst 0, 1) := by decide +kernel
theorem d_M_load_46 : decode b_M_load 46 = .ok (.putfield 231, 3) := by decide +kernel
theorem d_M_load_49 : decode b_M_load 49 = .ok (.aload_n 0, 1) := by decide +kernel
theorem d_M_load_50 : decode b_M_load 50 = .ok (.iconst 0, 1) := by decide +kernel
theorem d_M_load_51 : decode b_M_load 51 = .ok (.putfield 243, 3) := by decide +kernel
theorem d_M_load_54 : decode b_M_load 54 = .ok (.aload_n 0, 1) := by decide +kernel
theorem d_M_load_55 : decode b_M_load 55 = .ok (.iconst 0, 1) := by decide +kernel
theorem d_M_load_56 : decode b_M_load 56 = .ok (.putfield 246, 3) := by decide +kernel
theorem d_M_load_59 : decode b_M_load 59 = .ok (.aload_n 0, 1) := by decide +kernel
theorem d_M_load_60 : decode b_M_load 60 = .ok (.iconst 0, 1) := by decide +kernel
theorem d_M_load_61 : decode b_M_load 61 = .ok (.putfield 249, 3) := by decide +kernel
theorem d_M_load_64 : decode b_M_load 64 = .ok (.aload_n 0, 1) := by decide +kernel
theorem d_M_load_65 : decode b_M_load 65 = .ok (.iconst 0, 1) := by decide +kernel
theorem d_M_load_66 : decode b_M_load 66 = .ok (.putfield 263, 3) := by decide +kernel
theorem d_M_load_69 : decode b_M_load 69 = .ok (.aload_n 0, 1) := by decide +kernel
theorem d_M_load_70 : decode b_M_load 70 = .ok (.iconst 0, 1) := by decide +kernel
theorem d_M_load_71 : decode b_M_load 71 = .ok (.putfield 273, 3) := by decide +kernel
theorem d_M_load_74 : decode b_M_load 74 = .ok (.aload_n 0, 1) := by decide +kernel
theorem d_M_load_75 : decode b_M_load 75 = .ok (.invokevirtual 334, 3) := by decide +kernel
theorem d_M_load_78 : decode b_M_load 78 = .ok (.aload_n 0, 1) := by decide +kernel
theorem d_M_load_79 : decode b_M_load 79 = .ok (.getfield 149, 3) := by decide +kernel
theorem d_M_load_82 : decode b_M_load 82 = .ok (.ifCond .ne 7, 3) := by decide +kernel
theorem d_M_load_85 : decode b_M_load 85 = .ok (.aload_n 0, 1) := by decide +kernel
theorem d_M_load_86 : decode b_M_load 86 = .ok (.invokevirtual 337, 3) := by decide +kernel
theorem d_M_load_89 : decode b_M_load 89 = .ok (.aload_n 0, 1) := by decide +kernel
theorem d_M_load_90 : decode b_M_load 90 = .ok (.getfield 149, 3) := by decide +kernel
theorem d_M_load_93 : decode b_M_load 93 = .ok (.ifCond .le 8, 3) := by decide +kernel
theorem d_M_load_96 : decode b_M_load 96 = .ok (.aload_n 0, 1) := by decide +kernel
theorem d_M_load_97 : decode b_M_load 97 = .ok (.getfield 149, 3) := by decide +kernel
theorem d_M_load_100 : decode b_M_load 100 = .ok (.ireturn, 1) := by decide +kernel
theorem d_M_load_101 : decode b_M_load 101 = .ok (.aload_n 0, 1) := by decide +kernel
theorem d_M_load_102 : decode b_M_load 102 = .ok (.iconst 1, 1) := by decide +kernel
theorem d_M_load_103 : decode b_M_load 103 = .ok (.putfield 127, 3) := by decide +kernel
theorem d_M_load_106 : decode b_M_load 106 = .ok (.aload_n 0, 1) := by decide +kernel
theorem d_M_load_107 : decode b_M_load 107 = .ok (.aload_n 0, 1) := by decide +kernel
theorem d_M_load_108 : decode b_M_load 108 = .ok (.getfield 222, 3) := by decide +kernel
theorem d_M_load_111 : decode b_M_load 111 = .ok (.ifCond .le 11, 3) := by decide +kernel
theorem d_M_load_114 : decode b_M_load 114 = .ok (.aload_n 0, 1) := by decide +kernel
theorem d_M_load_115 : decode b_M_load 115 = .ok (.getfield 231, 3) := by decide +kernel
theorem d_M_load_118 : decode b_M_load 118 = .ok (.l2i, 1) := by decide +kernel
theorem d_M_load_119 : decode b_M_load 119 = .ok (.goto 4, 3) := by decide +kernel
theorem d_M_load_122 : decode b_M_load 122 = .ok (.iconst 0, 1) := by decide +kernel
theorem d_M_load_123 : decode b_M_load 123 = .ok (.putfield 146, 3) := by decide +kernel
theorem d_M_load_126 : decode b_M_load 126 = .ok (.iconst 0, 1) := by decide +kernel
theorem d_M_load_127 : decode b_M_load 127 = .ok (.istore_n 1, 1) := by decide +kernel
theorem d_M_load_128 : decode b_M_load 128 = .ok (.iload_n 1, 1) := by decide +kernel
theorem d_M_load_129 : decode b_M_load 129 = .ok (.sipush 256, 3) := by decide +kernel
theorem d_M_load_132 : decode b_M_load 132 = .ok (.if_icmp .ge 16, 3) := by decide +kernel
theorem d_M_load_135 : decode b_M_load 135 = .ok (.aload_n 0, 1) := by decide +kernel
theorem d_M_load_136 : decode b_M_load 136 = .ok (.getfield 96, 3) := by decide +kernel
theorem d_M_load_139 : decode b_M_load 139 = .ok (.iload_n 1, 1) := by decide +kernel
theorem d_M_load_140 : decode b_M_load 140 = .ok (.iconst 0, 1) := by decide +kernel
theorem d_M_load_141 : decode b_M_load 141 = .ok (.iastore, 1) := by decide +kernel
theorem d_M_load_142 : decode b_M_load 142 = .ok (.iinc 1 1, 3) := by decide +kernel
theorem d_M_load_145 : decode b_M_load 145 = .ok (.goto (-17), 3) := by decide +kernel
theorem d_M_load_148 : decode b_M_load 148 = .ok (.iconst 0, 1) := by decide +kernel
theorem d_M_load_149 : decode b_M_load 149 = .ok (.istore_n 1, 1) := by decide +kernel
theorem d_M_load_150 : decode b_M_load 150 = .ok (.iload_n 1, 1) := by decide +kernel
theorem d_M_load_151 : decode b_M_load 151 = .ok (.aload_n 0, 1) := by decide +kernel
theorem d_M_load_152 : decode b_M_load 152 = .ok (.getfield 243, 3) := by decide +kernel
theorem d_M_load_155 : decode b_M_load 155 = .ok (.if_icmp .ge 21, 3) := by decide +kernel
theorem d_M_load_158 : decode b_M_load 158 = .ok (.aload_n 0, 1) := by decide +kernel
theorem d_M_load_159 : decode b_M_load 159 = .ok (.getfield 99, 3) := by decide +kernel
theorem d_M_load_162 : decode b_M_load 162 = .ok (.iload_n 1, 1) := by decide +kernel
theorem d_M_load_163 : decode b_M_load 163 = .ok (.aload_n 0, 1) := by decide +kernel
theorem d_M_load_164 : decode b_M_load 164 = .ok (.getfield 27, 3) := by decide +kernel
theorem d_M_load_167 : decode b_M_load 167 = .ok (.iload_n 1, 1) := by decide +kernel
theorem d_M_load_168 : decode b_M_load 168 = .ok (.iaload, 1) := by decide +kernel
theorem d_M_load_169 : decode b_M_load 169 = .ok (.iastore, 1) := by decide +kernel
theorem d_M_load_170 : decode b_M_load 170 = .ok (.iinc 1 1, 3) := by decide +kernel
theorem d_M_load_173 : decode b_M_load 173 = .ok (.goto (-23), 3) := by decide +kernel
theorem d_M_load_176 : decode b_M_load 176 = .ok (.iconst 0, 1) := by decide +kernel
theorem d_M_load_177 : decode b_M_load 177 = .ok (.istore_n 1, 1) := by decide +kernel
theorem d_M_load_178 : decode b_M_load 178 = .ok (.iload_n 1, 1) := by decide +kernel
theorem d_M_load_179 : decode b_M_load 179 = .ok (.aload_n 0, 1) := by decide +kernel
theorem d_M_load_180 : decode b_M_load 180 = .ok (.getfield 249, 3) := by decide +kernel
theorem d_M_load_183 : decode b_M_load 183 = .ok (.if_icmp .ge 53, 3) := by decide +kernel
theorem d_M_load_186 : decode b_M_load 186 = .ok (.iconst 0, 1) := by decide +kernel
theorem d_M_load_187 : decode b_M_load 187 = .ok (.istore_n 2, 1) := by decide +kernel
theorem d_M_load_188 : decode b_M_load 188 = .ok (.iload_n 2, 1) := by decide +kernel
theorem d_M_load_189 : decode b_M_load 189 = .ok (.aload_n 0, 1) := by decide +kernel
theorem d_M_load_190 : decode b_M_load 190 = .ok (.getfield 48, 3) := by decide +kernel
theorem d_M_load_193 : decode b_M_load 193 = .ok (.iload_n 1, 1) := by decide +kernel
theorem d_M_load_194 : decode b_M_load 194 = .ok (.iaload, 1) := by decide +kernel
theorem d_M_load_195 : decode b_M_load 195 = .ok (.if_icmp .ge 35, 3) := by decide +kernel
theorem d_M_load_198 : decode b_M_load 198 = .ok (.aload_n 0, 1) := by decide +kernel
theorem d_M_load_199 : decode b_M_load 199 = .ok (.getfield 96, 3) := by decide +kernel
theorem d_M_load_202 : decode b_M_load 202 = .ok (.aload_n 0, 1) := by decide +kernel
theorem d_M_load_203 : decode b_M_load 203 = .ok (.getfield 42, 3) := by decide +kernel
theorem d_M_load_206 : decode b_M_load 206 = .ok (.iload_n 1, 1) := by decide +kernel
theorem d_M_load_207 : decode b_M_load 207 = .ok (.iaload, 1) := by decide +kernel
theorem d_M_load_208 : decode b_M_load 208 = .ok (.iload_n 2, 1) := by decide +kernel
theorem d_M_load_209 : decode b_M_load 209 = .ok (.iadd, 1) := by decide +kernel
theorem d_M_load_210 : decode b_M_load 210 = .ok (.aload_n 0, 1) := by decide +kernel
theorem d_M_load_211 : decode b_M_load 211 = .ok (.getfield 7, 3) := by decide +kernel
theorem d_M_load_214 : decode b_M_load 214 = .ok (.aload_n 0, 1) := by decide +kernel
theorem d_M_load_215 : decode b_M_load 215 = .ok (.getfield 45, 3) := by decide +kernel
theorem d_M_load_218 : decode b_M_load 218 = .ok (.iload_n 1, 1) := by decide +kernel
theorem d_M_load_219 : decode b_M_load 219 = .ok (.iaload, 1) := by decide +kernel
theorem d_M_load_220 : decode b_M_load 220 = .ok (.iload_n 2, 1) := by decide +kernel
theorem d_M_load_221 : decode b_M_load 221 = .ok (.iadd, 1) := by decide +kernel
theorem d_M_load_222 : decode b_M_load 222 = .ok (.iaload, 1) := by decide +kernel
theorem d_M_load_223 : decode b_M_load 223 = .ok (.iastore, 1) := by decide +kernel
theorem d_M_load_224 : decode b_M_load 224 = .ok (.iinc 2 1, 3) := by decide +kernel
theorem d_M_load_227 : decode b_M_load 227 = .ok (.goto (-39), 3) := by decide +kernel
theorem d_M_load_230 : decode b_M_load 230 = .ok (.iinc 1 1, 3) := by decide +kernel
theorem d_M_load_233 : decode b_M_load 233 = .ok (.goto (-55), 3) := by decide +kernel
theorem d_M_load_236 : decode b_M_load 236 = .ok (.iconst 0, 1) := by decide +kernel
theorem d_M_load_237 : decode b_M_load 237 = .ok (.ireturn, 1) := by decide +kernel
