theorem d_M_entriesOf_0 : decode b_M_entriesOf 0 = .ok (.aload_n 0, 1) := by decide +kernel
theorem d_M_entriesOf_1 : decode b_M_entriesOf 1 = .ok (.getfield 51, 3) := by decide +kernel
theorem d_M_entriesOf_4 : decode b_M_entriesOf 4 = .ok (.iload_n 2, 1) := by decide +kernel
theorem d_M_entriesOf_5 : decode b_M_entriesOf 5 = .ok (.iaload, 1) := by decide +kernel
theorem d_M_entriesOf_6 : decode b_M_entriesOf 6 = .ok (.bipush 11, 2) := by decide +kernel
theorem d_M_entriesOf_8 : decode b_M_entriesOf 8 = .ok (.if_icmp .ne 19, 3) := by decide +kernel
theorem d_M_entriesOf_11 : decode b_M_entriesOf 11 = .ok (.iload_n 2, 1) := by decide +kernel
theorem d_M_entriesOf_12 : decode b_M_entriesOf 12 = .ok (.aload_n 0, 1) := by decide +kernel
theorem d_M_entriesOf_13 : decode b_M_entriesOf 13 = .ok (.getfield 78, 3) := by decide +kernel
theorem d_M_entriesOf_16 : decode b_M_entriesOf 16 = .ok (.iload_n 1, 1) := by decide +kernel
theorem d_M_entriesOf_17 : decode b_M_entriesOf 17 = .ok (.iaload, 1) := by decide +kernel
theorem d_M_entriesOf_18 : decode b_M_entriesOf 18 = .ok (.if_icmp .ne 7, 3) := by decide +kernel
theorem d_M_entriesOf_21 : decode b_M_entriesOf 21 = .ok (.iconst 1, 1) := by decide +kernel
theorem d_M_entriesOf_22 : decode b_M_entriesOf 22 = .ok (.goto 4, 3) := by decide +kernel
theorem d_M_entriesOf_25 : decode b_M_entriesOf 25 = .ok (.iconst 0, 1) := by decide +kernel
theorem d_M_entriesOf_26 : decode b_M_entriesOf 26 = .ok (.ireturn, 1) := by decide +kernel
theorem d_M_entriesOf_27 : decode b_M_entriesOf 27 = .ok (.aload_n 0, 1) := by decide +kernel
theorem d_M_entriesOf_28 : decode b_M_entriesOf 28 = .ok (.getfield 51, 3) := by decide +kernel
theorem d_M_entriesOf_31 : decode b_M_entriesOf 31 = .ok (.iload_n 2, 1) := by decide +kernel
theorem d_M_entriesOf_32 : decode b_M_entriesOf 32 = .ok (.iaload, 1) := by decide +kernel
theorem d_M_entriesOf_33 : decode b_M_entriesOf 33 = .ok (.bipush 14, 2) := by decide +kernel
theorem d_M_entriesOf_35 : decode b_M_entriesOf 35 = .ok (.if_icmp .ne 15, 3) := by decide +kernel
theorem d_M_entriesOf_38 : decode b_M_entriesOf 38 = .ok (.iconst 2, 1) := by decide +kernel
theorem d_M_entriesOf_39 : decode b_M_entriesOf 39 = .ok (.aload_n 0, 1) := by decide +kernel
theorem d_M_entriesOf_40 : decode b_M_entriesOf 40 = .ok (.getfield 54, 3) := by decide +kernel
theorem d_M_entriesOf_43 : decode b_M_entriesOf 43 = .ok (.iload_n 2, 1) := by decide +kernel
theorem d_M_entriesOf_44 : decode b_M_entriesOf 44 = .ok (.laload, 1) := by decide +kernel
theorem d_M_entriesOf_45 : decode b_M_entriesOf 45 = .ok (.l2i, 1) := by decide +kernel
theorem d_M_entriesOf_46 : decode b_M_entriesOf 46 = .ok (.iadd, 1) := by decide +kernel
theorem d_M_entriesOf_47 : decode b_M_entriesOf 47 = .ok (.goto 4, 3) := by decide +kernel
theorem d_M_entriesOf_50 : decode b_M_entriesOf 50 = .ok (.iconst 1, 1) := by decide +kernel
theorem d_M_entriesOf_51 : decode b_M_entriesOf 51 = .ok (.ireturn, 1) := by decide +kernel
theorem d_M_number_0 : decode b_M_number 0 = .ok (.iload_n 2, 1) := by decide +kernel
theorem d_M_number_1 : decode b_M_number 1 = .ok (.istore_n 3, 1) := by decide +kernel
theorem d_M_number_2 : decode b_M_number 2 = .ok (.iconst 0, 1) := by decide +kernel
theorem d_M_number_3 : decode b_M_number 3 = .ok (.istore 4, 2) := by decide +kernel
theorem d_M_number_5 : decode b_M_number 5 = .ok (.iconst 0, 1) := by decide +kernel
theorem d_M_number_6 : decode b_M_number 6 = .ok (.istore 5, 2) := by decide +kernel
theorem d_M_number_8 : decode b_M_number 8 = .ok (.aload_n 0, 1) := by decide +kernel
theorem d_M_number_9 : decode b_M_number 9 = .ok (.getfield 75, 3) := by decide +kernel
theorem d_M_number_12 : decode b_M_number 12 = .ok (.iload_n 1, 1) := by decide +kernel
theorem d_M_number_13 : decode b_M_number 13 = .ok (.iaload, 1) := by decide +kernel
theorem d_M_number_14 : decode b_M_number 14 = .ok (.istore 6, 2) := by decide +kernel
theorem d_M_number_16 : decode b_M_number 16 = .ok (.iload 6, 2) := by decide +kernel
theorem d_M_number_18 : decode b_M_number 18 = .ok (.aload_n 0, 1) := by decide +kernel
theorem d_M_number_19 : decode b_M_number 19 = .ok (.getfield 78, 3) := by decide +kernel
theorem d_M_number_22 : decode b_M_number 22 = .ok (.iload_n 1, 1) := by decide +kernel
theorem d_M_number_23 : decode b_M_number 23 = .ok (.iaload, 1) := by decide +kernel
theorem d_M_number_24 : decode b_M_number 24 = .ok (.if_icmp .gt 175, 3) := by decide +kernel
theorem d_M_number_27 : decode b_M_number 27 = .ok (.aload_n 0, 1) := by decide +kernel
theorem d_M_number_28 : decode b_M_number 28 = .ok (.getfield 51, 3) := by decide +kernel
theorem d_M_number_31 : decode b_M_number 31 = .ok (.iload 6, 2) := by decide +kernel
theorem d_M_number_33 : decode b_M_number 33 = .ok (.iaload, 1) := by decide +kernel
theorem d_M_number_34 : decode b_M_number 34 = .ok (.istore 7, 2) := by decide +kernel
theorem d_M_number_36 : decode b_M_number 36 = .ok (.aload_n 0, 1) := by decide +kernel
theorem d_M_number_37 : decode b_M_number 37 = .ok (.getfield 72, 3) := by decide +kernel
theorem d_M_number_40 : decode b_M_number 40 = .ok (.iload 6, 2) := by decide +kernel
theorem d_M_number_42 : decode b_M_number 42 = .ok (.iload_n 3, 1) := by decide +kernel
theorem d_M_number_43 : decode b_M_number 43 = .ok (.iastore, 1) := by decide +kernel
theorem d_M_number_44 : decode b_M_number 44 = .ok (.iload 7, 2) := by decide +kernel
theorem d_M_number_46 : decode b_M_number 46 = .ok (.iconst 2, 1) := by decide +kernel
theorem d_M_number_47 : decode b_M_number 47 = .ok (.if_icmp .lt 13, 3) := by decide +kernel
theorem d_M_number_50 : decode b_M_number 50 = .ok (.iload 7, 2) := by decide +kernel
theorem d_M_number_52 : decode b_M_number 52 = .ok (.iconst 4, 1) := by decide +kernel
theorem d_M_number_53 : decode b_M_number 53 = .ok (.if_icmp .gt 7, 3) := by decide +kernel
theorem d_M_number_56 : decode b_M_number 56 = .ok (.iconst 1, 1) := by decide +kernel
theorem d_M_number_57 : decode b_M_number 57 = .ok (.goto 4, 3) := by decide +kernel
theorem d_M_number_60 : decode b_M_number 60 = .ok (.iconst 0, 1) := by decide +kernel
theorem d_M_number_61 : decode b_M_number 61 = .ok (.istore 8, 2) := by decide +kernel
theorem d_M_number_63 : decode b_M_number 63 = .ok (.iload 7, 2) := by decide +kernel
theorem d_M_number_65 : decode b_M_number 65 = .ok (.iconst 5, 1) := by decide +kernel
theorem d_M_number_66 : decode b_M_number 66 = .ok (.if_icmp .eq 10, 3) := by decide +kernel
theorem d_M_number_69 : decode b_M_number 69 = .ok (.iload 7, 2) := by decide +kernel
theorem d_M_number_71 : decode b_M_number 71 = .ok (.bipush 11, 2) := by decide +kernel
theorem d_M_number_73 : decode b_M_number 73 = .ok (.if_icmp .ne 12, 3) := by decide +kernel
theorem d_M_number_76 : decode b_M_number 76 = .ok (.iload 5, 2) := by decide +kernel
theorem d_M_number_78 : decode b_M_number 78 = .ok (.ifCond .ne 7, 3) := by decide +kernel
theorem d_M_number_81 : decode b_M_number 81 = .ok (.iconst 1, 1) := by decide +kernel
theorem d_M_number_82 : decode b_M_number 82 = .ok (.goto 4, 3) := by decide +kernel
theorem d_M_number_85 : decode b_M_number 85 = .ok (.iconst 0, 1) := by decide +kernel
theorem d_M_number_86 : decode b_M_number 86 = .ok (.istore 9, 2) := by decide +kernel
theorem d_M_number_88 : decode b_M_number 88 = .ok (.iload 4, 2) := by decide +kernel
theorem d_M_number_90 : decode b_M_number 90 = .ok (.ifCond .eq 14, 3) := by decide +kernel
theorem d_M_number_93 : decode b_M_number 93 = .ok (.iload 6, 2) := by decide +kernel
theorem d_M_number_95 : decode b_M_number 95 = .ok (.aload_n 0, 1) := by decide +kernel
theorem d_M_number_96 : decode b_M_number 96 = .ok (.getfield 78, 3) := by decide +kernel
theorem d_M_number_99 : decode b_M_number 99 = .ok (.iload_n 1, 1) := by decide +kernel
theorem d_M_number_100 : decode b_M_number 100 = .ok (.iaload, 1) := by decide +kernel
theorem d_M_number_101 : decode b_M_number 101 = .ok (.if_icmp .ne 16, 3) := by decide +kernel
theorem d_M_number_104 : decode b_M_number 104 = .ok (.iload_n 3, 1) := by decide +kernel
theorem d_M_number_105 : decode b_M_number 105 = .ok (.aload_n 0, 1) := by decide +kernel
theorem d_M_number_106 : decode b_M_number 106 = .ok (.iload_n 1, 1) := by decide +kernel
theorem d_M_number_107 : decode b_M_number 107 = .ok (.iload 6, 2) := by decide +kernel
theorem d_M_number_109 : decode b_M_number 109 = .ok (.invokevirtual 396, 3) := by decide +kernel
theorem d_M_number_112 : decode b_M_number 112 = .ok (.iadd, 1) := by decide +kernel
theorem d_M_number_113 : decode b_M_number 113 = .ok (.istore_n 3, 1) := by decide +kernel
theorem d_M_number_114 : decode b_M_number 114 = .ok (.goto 29, 3) := by decide +kernel
theorem d_M_number_117 : decode b_M_number 117 = .ok (.iload 8, 2) := by decide +kernel
theorem d_M_number_119 : decode b_M_number 119 = .ok (.ifCond .eq 9, 3) := by decide +kernel
theorem d_M_number_122 : decode b_M_number 122 = .ok (.iinc 5 1, 3) := by decide +kernel
theorem d_M_number_125 : decode b_M_number 125 = .ok (.goto 18, 3) := by decide +kernel
theorem d_M_number_128 : decode b_M_number 128 = .ok (.iload 7, 2) := by decide +kernel
theorem d_M_number_130 : decode b_M_number 130 = .ok (.bipush 11, 2) := by decide +kernel
theorem d_M_number_132 : decode b_M_number 132 = .ok (.if_icmp .ne 11, 3) := by decide +kernel
theorem d_M_number_135 : decode b_M_number 135 = .ok (.iload 5, 2) := by decide +kernel
theorem d_M_number_137 : decode b_M_number 137 = .ok (.ifCond .le 6, 3) := by decide +kernel
theorem d_M_number_140 : decode b_M_number 140 = .ok (.iinc 5 (-1), 3) := by decide +kernel
theorem d_M_number_143 : decode b_M_number 143 = .ok (.iload 4, 2) := by decide +kernel
theorem d_M_number_145 : decode b_M_number 145 = .ok (.ifCond .eq 14, 3) := by decide +kernel
theorem d_M_number_148 : decode b_M_number 148 = .ok (.iload 9, 2) := by decide +kernel
theorem d_M_number_150 : decode b_M_number 150 = .ok (.ifCond .eq 9, 3) := by decide +kernel
theorem d_M_number_153 : decode b_M_number 153 = .ok (.iconst 0, 1) := by decide +kernel
theorem d_M_number_154 : decode b_M_number 154 = .ok (.istore 4, 2) := by decide +kernel
theorem d_M_number_156 : decode b_M_number 156 = .ok (.goto 37, 3) := by decide +kernel
theorem d_M_number_159 : decode b_M_number 159 = .ok (.iload 4, 2) := by decide +kernel
theorem d_M_number_161 : decode b_M_number 161 = .ok (.ifCond .ne 32, 3) := by decide +kernel
theorem d_M_number_164 : decode b_M_number 164 = .ok (.iload 7, 2) := by decide +kernel
theorem d_M_number_166 : decode b_M_number 166 = .ok (.ifCond .eq 24, 3) := by decide +kernel
theorem d_M_number_169 : decode b_M_number 169 = .ok (.iload 7, 2) := by decide +kernel
theorem d_M_number_171 : decode b_M_number 171 = .ok (.bipush 12, 2) := by decide +kernel
theorem d_M_number_173 : decode b_M_number 173 = .ok (.if_icmp .eq 17, 3) := by decide +kernel
theorem d_M_number_176 : decode b_M_number 176 = .ok (.iload 7, 2) := by decide +kernel
theorem d_M_number_178 : decode b_M_number 178 = .ok (.bipush 14, 2) := by decide +kernel
theorem d_M_number_180 : decode b_M_number 180 = .ok (.if_icmp .eq 10, 3) := by decide +kernel
theorem d_M_number_183 : decode b_M_number 183 = .ok (.iload 7, 2) := by decide +kernel
theorem d_M_number_185 : decode b_M_number 185 = .ok (.bipush 15, 2) := by decide +kernel
theorem d_M_number_187 : decode b_M_number 187 = .ok (.if_icmp .ne 6, 3) := by decide +kernel
theorem d_M_number_190 : decode b_M_number 190 = .ok (.iconst 1, 1) := by decide +kernel
theorem d_M_number_191 : decode b_M_number 191 = .ok (.istore 4, 2) := by decide +kernel
theorem d_M_number_193 : decode b_M_number 193 = .ok (.iinc 6 1, 3) := by decide +kernel
theorem d_M_number_196 : decode b_M_number 196 = .ok (.goto (-180), 3) := by decide +kernel
theorem d_M_number_199 : decode b_M_number 199 = .ok (.iload_n 3, 1) := by decide +kernel
theorem d_M_number_200 : decode b_M_number 200 = .ok (.ireturn, 1) := by decide +kernel
theorem d_M_write_0 : decode b_M_write 0 = .ok (.aload_n 0, 1) := by decide +kernel
theorem d_M_write_1 : decode b_M_write 1 = .ok (.getfield 117, 3) := by decide +kernel
theorem d_M_write_4 : decode b_M_write 4 = .ok (.aload_n 0, 1) := by decide +kernel
theorem d_M_write_5 : decode b_M_write 5 = .ok (.getfield 143, 3) := by decide +kernel
theorem d_M_write_8 : decode b_M_write 8 = .ok (.iload_n 1, 1) := by decide +kernel
theorem d_M_write_9 : decode b_M_write 9 = .ok (.iastore, 1) := by decide +kernel
theorem d_M_write_10 : decode b_M_write 10 = .ok (.aload_n 0, 1) := by decide +kernel
theorem d_M_write_11 : decode b_M_write 11 = .ok (.getfield 117, 3) := by decide +kernel
theorem d_M_write_14 : decode b_M_write 14 = .ok (.aload_n 0, 1) := by decide +kernel
theorem d_M_write_15 : decode b_M_write 15 = .ok (.getfield 143, 3) := by decide +kernel
theorem d_M_write_18 : decode b_M_write 18 = .ok (.iconst 1, 1) := by decide +kernel
theorem d_M_write_19 : decode b_M_write 19 = .ok (.iadd, 1) := by decide +kernel
theorem d_M_write_20 : decode b_M_write 20 = .ok (.iload_n 2, 1) := by decide +kernel
theorem d_M_write_21 : decode b_M_write 21 = .ok (.iastore, 1) := by decide +kernel
theorem d_M_write_22 : decode b_M_write 22 = .ok (.aload_n 0, 1) := by decide +kernel
theorem d_M_write_23 : decode b_M_write 23 = .ok (.getfield 117, 3) := by decide +kernel
theorem d_M_write_26 : decode b_M_write 26 = .ok (.aload_n 0, 1) := by decide +kernel
theorem d_M_write_27 : decode b_M_write 27 = .ok (.getfield 143, 3) := by decide +kernel
theorem d_M_write_30 : decode b_M_write 30 = .ok (.iconst 2, 1) := by decide +kernel
theorem d_M_write_31 : decode b_M_write 31 = .ok (.iadd, 1) := by decide +kernel
theorem d_M_write_32 : decode b_M_write 32 = .ok (.iload_n 3, 1) := by decide +kernel
theorem d_M_write_33 : decode b_M_write 33 = .ok (.iastore, 1) := by decide +kernel
theorem d_M_write_34 : decode b_M_write 34 = .ok (.aload_n 0, 1) := by decide +kernel
theorem d_M_write_35 : decode b_M_write 35 = .ok (.getfield 117, 3) := by decide +kernel
theorem d_M_write_38 : decode b_M_write 38 = .ok (.aload_n 0, 1) := by decide +kernel
theorem d_M_write_39 : decode b_M_write 39 = .ok (.getfield 143, 3) := by decide +kernel
theorem d_M_write_42 : decode b_M_write 42 = .ok (.iconst 3, 1) := by decide +kernel
theorem d_M_write_43 : decode b_M_write 43 = .ok (.iadd, 1) := by decide +kernel
theorem d_M_write_44 : decode b_M_write 44 = .ok (.iload 4, 2) := by decide +kernel
theorem d_M_write_46 : decode b_M_write 46 = .ok (.iastore, 1) := by decide +kernel
theorem d_M_write_47 : decode b_M_write 47 = .ok (.aload_n 0, 1) := by decide +kernel
theorem d_M_write_48 : decode b_M_write 48 = .ok (.dup, 1) := by decide +kernel
theorem d_M_write_49 : decode b_M_write 49 = .ok (.getfield 143, 3) := by decide +kernel
theorem d_M_write_52 : decode b_M_write 52 = .ok (.iconst 4, 1) := by decide +kernel
theorem d_M_write_53 : decode b_M_write 53 = .ok (.iadd, 1) := by decide +kernel
theorem d_M_write_54 : decode b_M_write 54 = .ok (.putfield 143, 3) := by decide +kernel
theorem d_M_write_57 : decode b_M_write 57 = .ok (.return_, 1) := by decide +kernel
theorem d_M_blockAt_0 : decode b_M_blockAt 0 = .ok (.aload_n 0, 1) := by decide +kernel
theorem d_M_blockAt_1 : decode b_M_blockAt 1 = .ok (.getfield 60, 3) := by decide +kernel
theorem d_M_blockAt_4 : decode b_M_blockAt 4 = .ok (.iload_n 1, 1) := by decide +kernel
theorem d_M_blockAt_5 : decode b_M_blockAt 5 = .ok (.iaload, 1) := by decide +kernel
theorem d_M_blockAt_6 : decode b_M_blockAt 6 = .ok (.istore 4, 2) := by decide +kernel
theorem d_M_blockAt_8 : decode b_M_blockAt 8 = .ok (.lconst 0, 1) := by decide +kernel
theorem d_M_blockAt_9 : decode b_M_blockAt 9 = .ok (.lstore 5, 2) := by decide +kernel
theorem d_M_blockAt_11 : decode b_M_blockAt 11 = .ok (.lload 5, 2) := by decide +kernel
theorem d_M_blockAt_13 : decode b_M_blockAt 13 = .ok (.lload_n 2, 1) := by decide +kernel
theorem d_M_blockAt_14 : decode b_M_blockAt 14 = .ok (.lcmp, 1) := by decide +kernel
theorem d_M_blockAt_15 : decode b_M_blockAt 15 = .ok (.ifCond .ge 27, 3) := by decide +kernel
theorem d_M_blockAt_18 : decode b_M_blockAt 18 = .ok (.iload 4, 2) := by decide +kernel
theorem d_M_blockAt_20 : decode b_M_blockAt 20 = .ok (.iconst (-1), 1) := by decide +kernel
theorem d_M_blockAt_21 : decode b_M_blockAt 21 = .ok (.if_icmp .eq 21, 3) := by decide +kernel
theorem d_M_blockAt_24 : decode b_M_blockAt 24 = .ok (.aload_n 0, 1) := by decide +kernel
theorem d_M_blockAt_25 : decode b_M_blockAt 25 = .ok (.getfield 60, 3) := by decide +kernel
theorem d_M_blockAt_28 : decode b_M_blockAt 28 = .ok (.iload 4, 2) := by decide +kernel
theorem d_M_blockAt_30 : decode b_M_blockAt 30 = .ok (.iaload, 1) := by decide +kernel
theorem d_M_blockAt_31 : decode b_M_blockAt 31 = .ok (.istore 4, 2) := by decide +kernel
theorem d_M_blockAt_33 : decode b_M_blockAt 33 = .ok (.lload 5, 2) := by decide +kernel
theorem d_M_blockAt_35 : decode b_M_blockAt 35 = .ok (.lconst 1, 1) := by decide +kernel
theorem d_M_blockAt_36 : decode b_M_blockAt 36 = .ok (.ladd, 1) := by decide +kernel
theorem d_M_blockAt_37 : decode b_M_blockAt 37 = .ok (.lstore 5, 2) := by decide +kernel
theorem d_M_blockAt_39 : decode b_M_blockAt 39 = .ok (.goto (-28), 3) := by decide +kernel
theorem d_M_blockAt_42 : decode b_M_blockAt 42 = .ok (.iload 4, 2) := by decide +kernel
theorem d_M_blockAt_44 : decode b_M_blockAt 44 = .ok (.ireturn, 1) := by decide +kernel
theorem d_M_target_0 : decode b_M_target 0 = .ok (.aload_n 0, 1) := by decide +kernel
theorem d_M_target_1 : decode b_M_target 1 = .ok (.iload_n 2, 1) := by decide +kernel
theorem d_M_target_2 : decode b_M_target 2 = .ok (.lload_n 3, 1) := by decide +kernel
theorem d_M_target_3 : decode b_M_target 3 = .ok (.invokevirtual 399, 3) := by decide +kernel
theorem d_M_target_6 : decode b_M_target 6 = .ok (.istore 5, 2) := by decide +kernel
theorem d_M_target_8 : decode b_M_target 8 = .ok (.iload 5, 2) := by decide +kernel
theorem d_M_target_10 : decode b_M_target 10 = .ok (.iconst (-1), 1) := by decide +kernel
theorem d_M_target_11 : decode b_M_target 11 = .ok (.if_icmp .ne 15, 3) := by decide +kernel
theorem d_M_target_14 : decode b_M_target 14 = .ok (.aload_n 0, 1) := by decide +kernel
theorem d_M_target_15 : decode b_M_target 15 = .ok (.getfield 72, 3) := by decide +kernel
theorem d_M_target_18 : decode b_M_target 18 = .ok (.aload_n 0, 1) := by decide +kernel
theorem d_M_target_19 : decode b_M_target 19 = .ok (.getfield 78, 3) := by decide +kernel
theorem d_M_target_22 : decode b_M_target 22 = .ok (.iload_n 1, 1) := by decide +kernel
theorem d_M_target_23 : decode b_M_target 23 = .ok (.iaload, 1) := by decide +kernel
theorem d_M_target_24 : decode b_M_target 24 = .ok (.iaload, 1) := by decide +kernel
theorem d_M_target_25 : decode b_M_target 25 = .ok (.ireturn, 1) := by decide +kernel
theorem d_M_target_26 : decode b_M_target 26 = .ok (.aload_n 0, 1) := by decide +kernel
theorem d_M_target_27 : decode b_M_target 27 = .ok (.getfield 51, 3) := by decide +kernel
theorem d_M_target_30 : decode b_M_target 30 = .ok (.iload 5, 2) := by decide +kernel
theorem d_M_target_32 : decode b_M_target 32 = .ok (.iaload, 1) := by decide +kernel
theorem d_M_target_33 : decode b_M_target 33 = .ok (.iconst 3, 1) := by decide +kernel
theorem d_M_target_34 : decode b_M_target 34 = .ok (.if_icmp .ne 15, 3) := by decide +kernel
theorem d_M_target_37 : decode b_M_target 37 = .ok (.aload_n 0, 1) := by decide +kernel
theorem d_M_target_38 : decode b_M_target 38 = .ok (.getfield 72, 3) := by decide +kernel
theorem d_M_target_41 : decode b_M_target 41 = .ok (.iload 5, 2) := by decide +kernel
theorem d_M_target_43 : decode b_M_target 43 = .ok (.iconst 1, 1) := by decide +kernel
theorem d_M_target_44 : decode b_M_target 44 = .ok (.iadd, 1) := by decide +kernel
theorem d_M_target_45 : decode b_M_target 45 = .ok (.iaload, 1) := by decide +kernel
theorem d_M_target_46 : decode b_M_target 46 = .ok (.goto 15, 3) := by decide +kernel
theorem d_M_target_49 : decode b_M_target 49 = .ok (.aload_n 0, 1) := by decide +kernel
theorem d_M_target_50 : decode b_M_target 50 = .ok (.getfield 72, 3) := by decide +kernel
theorem d_M_target_53 : decode b_M_target 53 = .ok (.aload_n 0, 1) := by decide +kernel
theorem d_M_target_54 : decode b_M_target 54 = .ok (.getfield 63, 3) := by decide +kernel
theorem d_M_target_57 : decode b_M_target 57 = .ok (.iload 5, 2) := by decide +kernel
theorem d_M_target_59 : decode b_M_target 59 = .ok (.iaload, 1) := by decide +kernel
theorem d_M_target_60 : decode b_M_target 60 = .ok (.iaload, 1) := by decide +kernel
theorem d_M_target_61 : decode b_M_target 61 = .ok (.ireturn, 1) := by decide +kernel
theorem d_M_left_0 : decode b_M_left 0 = .ok (.aload_n 0, 1) := by decide +kernel
theorem d_M_left_1 : decode b_M_left 1 = .ok (.iload_n 2, 1) := by decide +kernel
theorem d_M_left_2 : decode b_M_left 2 = .ok (.lload_n 3, 1) := by decide +kernel
theorem d_M_left_3 : decode b_M_left 3 = .ok (.invokevirtual 399, 3) := by decide +kernel
theorem d_M_left_6 : decode b_M_left 6 = .ok (.istore 5, 2) := by decide +kernel
theorem d_M_left_8 : decode b_M_left 8 = .ok (.iload 5, 2) := by decide +kernel
theorem d_M_left_10 : decode b_M_left 10 = .ok (.iconst (-1), 1) := by decide +kernel
theorem d_M_left_11 : decode b_M_left 11 = .ok (.if_icmp .ne 17, 3) := by decide +kernel
theorem d_M_left_14 : decode b_M_left 14 = .ok (.iconst 2, 1) := by decide +kernel
theorem d_M_left_15 : decode b_M_left 15 = .ok (.aload_n 0, 1) := by decide +kernel
theorem d_M_left_16 : decode b_M_left 16 = .ok (.iload_n 1, 1) := by decide +kernel
theorem d_M_left_17 : decode b_M_left 17 = .ok (.invokevirtual 322, 3) := by decide +kernel
theorem d_M_left_20 : decode b_M_left 20 = .ok (.imul, 1) := by decide +kernel
theorem d_M_left_21 : decode b_M_left 21 = .ok (.aload_n 0, 1) := by decide +kernel
theorem d_M_left_22 : decode b_M_left 22 = .ok (.iload_n 1, 1) := by decide +kernel
theorem d_M_left_23 : decode b_M_left 23 = .ok (.invokevirtual 292, 3) := by decide +kernel
theorem d_M_left_26 : decode b_M_left 26 = .ok (.iadd, 1) := by decide +kernel
theorem d_M_left_27 : decode b_M_left 27 = .ok (.ireturn, 1) := by decide +kernel
theorem d_M_left_28 : decode b_M_left 28 = .ok (.aload_n 0, 1) := by decide +kernel
theorem d_M_left_29 : decode b_M_left 29 = .ok (.getfield 69, 3) := by decide +kernel
theorem d_M_left_32 : decode b_M_left 32 = .ok (.iload 5, 2) := by decide +kernel
theorem d_M_left_34 : decode b_M_left 34 = .ok (.iaload, 1) := by decide +kernel
theorem d_M_left_35 : decode b_M_left 35 = .ok (.aload_n 0, 1) := by decide +kernel
theorem d_M_left_36 : decode b_M_left 36 = .ok (.getfield 51, 3) := by decide +kernel
theorem d_M_left_39 : decode b_M_left 39 = .ok (.iload 5, 2) := by decide +kernel
theorem d_M_left_41 : decode b_M_left 41 = .ok (.iaload, 1) := by decide +kernel
theorem d_M_left_42 : decode b_M_left 42 = .ok (.iconst 4, 1) := by decide +kernel
theorem d_M_left_43 : decode b_M_left 43 = .ok (.if_icmp .ne 7, 3) := by decide +kernel
theorem d_M_left_46 : decode b_M_left 46 = .ok (.iconst 1, 1) := by decide +kernel
theorem d_M_left_47 : decode b_M_left 47 = .ok (.goto 4, 3) := by decide +kernel
theorem d_M_left_50 : decode b_M_left 50 = .ok (.iconst 0, 1) := by decide +kernel
theorem d_M_left_51 : decode b_M_left 51 = .ok (.isub, 1) := by decide +kernel
theorem d_M_left_52 : decode b_M_left 52 = .ok (.istore 6, 2) := by decide +kernel
theorem d_M_left_54 : decode b_M_left 54 = .ok (.iconst 2, 1) := by decide +kernel
theorem d_M_left_55 : decode b_M_left 55 = .ok (.aload_n 0, 1) := by decide +kernel
theorem d_M_left_56 : decode b_M_left 56 = .ok (.iload_n 1, 1) := by decide +kernel
theorem d_M_left_57 : decode b_M_left 57 = .ok (.invokevirtual 322, 3) := by decide +kernel
theorem d_M_left_60 : decode b_M_left 60 = .ok (.iload 6, 2) := by decide +kernel
theorem d_M_left_62 : decode b_M_left 62 = .ok (.iadd, 1) := by decide +kernel
theorem d_M_left_63 : decode b_M_left 63 = .ok (.imul, 1) := by decide +kernel
theorem d_M_left_64 : decode b_M_left 64 = .ok (.aload_n 0, 1) := by decide +kernel
theorem d_M_left_65 : decode b_M_left 65 = .ok (.getfield 51, 3) := by decide +kernel
theorem d_M_left_68 : decode b_M_left 68 = .ok (.iload 5, 2) := by decide +kernel
theorem d_M_left_70 : decode b_M_left 70 = .ok (.iaload, 1) := by decide +kernel
theorem d_M_left_71 : decode b_M_left 71 = .ok (.iconst 3, 1) := by decide +kernel
theorem d_M_left_72 : decode b_M_left 72 = .ok (.if_icmp .ne 7, 3) := by decide +kernel
theorem d_M_left_75 : decode b_M_left 75 = .ok (.iconst 0, 1) := by decide +kernel
theorem d_M_left_76 : decode b_M_left 76 = .ok (.goto 11, 3) := by decide +kernel
theorem d_M_left_79 : decode b_M_left 79 = .ok (.aload_n 0, 1) := by decide +kernel
theorem d_M_left_80 : decode b_M_left 80 = .ok (.getfield 54, 3) := by decide +kernel
theorem d_M_left_83 : decode b_M_left 83 = .ok (.iload 5, 2) := by decide +kernel
theorem d_M_left_85 : decode b_M_left 85 = .ok (.laload, 1) := by decide +kernel
theorem d_M_left_86 : decode b_M_left 86 = .ok (.l2i, 1) := by decide +kernel
theorem d_M_left_87 : decode b_M_left 87 = .ok (.iadd, 1) := by decide +kernel
theorem d_M_left_88 : decode b_M_left 88 = .ok (.ireturn, 1) := by decide +kernel
theorem d_M_writeEntry_0 : decode b_M_writeEntry 0 = .ok (.aload_n 0, 1) := by decide +kernel
theorem d_M_writeEntry_1 : decode b_M_writeEntry 1 = .ok (.getfield 51, 3) := by decide +kernel
theorem d_M_writeEntry_4 : decode b_M_writeEntry 4 = .ok (.iload_n 2, 1) := by decide +kernel
theorem d_M_writeEntry_5 : decode b_M_writeEntry 5 = .ok (.iaload, 1) := by decide +kernel
theorem d_M_writeEntry_6 : decode b_M_writeEntry 6 = .ok (.istore_n 3, 1) := by decide +kernel
theorem d_M_writeEntry_7 : decode b_M_writeEntry 7 = .ok (.aload_n 0, 1) := by decide +kernel
theorem d_M_writeEntry_8 : decode b_M_writeEntry 8 = .ok (.iload_n 1, 1) := by decide +kernel
theorem d_M_writeEntry_9 : decode b_M_writeEntry 9 = .ok (.invokevirtual 322, 3) := by decide +kernel
theorem d_M_writeEntry_12 : decode b_M_writeEntry 12 = .ok (.aload_n 0, 1) := by decide +kernel
theorem d_M_writeEntry_13 : decode b_M_writeEntry 13 = .ok (.getfield 69, 3) := by decide +kernel
theorem d_M_writeEntry_16 : decode b_M_writeEntry 16 = .ok (.iload_n 2, 1) := by decide +kernel
theorem d_M_writeEntry_17 : decode b_M_writeEntry 17 = .ok (.iaload, 1) := by decide +kernel
theorem d_M_writeEntry_18 : decode b_M_writeEntry 18 = .ok (.iadd, 1) := by decide +kernel
theorem d_M_writeEntry_19 : decode b_M_writeEntry 19 = .ok (.istore 4, 2) := by decide +kernel
theorem d_M_writeEntry_21 : decode b_M_writeEntry 21 = .ok (.iload_n 3, 1) := by decide +kernel
theorem d_M_writeEntry_22 : decode b_M_writeEntry 22 = .ok (.bipush 11, 2) := by decide +kernel
theorem d_M_writeEntry_24 : decode b_M_writeEntry 24 = .ok (.if_icmp .ne 29, 3) := by decide +kernel
theorem d_M_writeEntry_27 : decode b_M_writeEntry 27 = .ok (.aload_n 0, 1) := by decide +kernel
theorem d_M_writeEntry_28 : decode b_M_writeEntry 28 = .ok (.bipush 11, 2) := by decide +kernel
theorem d_M_writeEntry_30 : decode b_M_writeEntry 30 = .ok (.aload_n 0, 1) := by decide +kernel
theorem d_M_writeEntry_31 : decode b_M_writeEntry 31 = .ok (.iload_n 1, 1) := by decide +kernel
theorem d_M_writeEntry_32 : decode b_M_writeEntry 32 = .ok (.invokevirtual 322, 3) := by decide +kernel
theorem d_M_writeEntry_35 : decode b_M_writeEntry 35 = .ok (.aload_n 0, 1) := by decide +kernel
theorem d_M_writeEntry_36 : decode b_M_writeEntry 36 = .ok (.iload_n 1, 1) := by decide +kernel
theorem d_M_writeEntry_37 : decode b_M_writeEntry 37 = .ok (.invokevirtual 292, 3) := by decide +kernel
theorem d_M_writeEntry_40 : decode b_M_writeEntry 40 = .ok (.iadd, 1) := by decide +kernel
theorem d_M_writeEntry_41 : decode b_M_writeEntry 41 = .ok (.iconst 0, 1) := by decide +kernel
theorem d_M_writeEntry_42 : decode b_M_writeEntry 42 = .ok (.aload_n 0, 1) := by decide +kernel
theorem d_M_writeEntry_43 : decode b_M_writeEntry 43 = .ok (.iload_n 1, 1) := by decide +kernel
theorem d_M_writeEntry_44 : decode b_M_writeEntry 44 = .ok (.invokevirtual 292, 3) := by decide +kernel
theorem d_M_writeEntry_47 : decode b_M_writeEntry 47 = .ok (.invokevirtual 402, 3) := by decide +kernel
theorem d_M_writeEntry_50 : decode b_M_writeEntry 50 = .ok (.goto 359, 3) := by decide +kernel
theorem d_M_writeEntry_53 : decode b_M_writeEntry 53 = .ok (.iload_n 3, 1) := by decide +kernel
theorem d_M_writeEntry_54 : decode b_M_writeEntry 54 = .ok (.bipush 12, 2) := by decide +kernel
theorem d_M_writeEntry_56 : decode b_M_writeEntry 56 = .ok (.if_icmp .eq 9, 3) := by decide +kernel
theorem d_M_writeEntry_59 : decode b_M_writeEntry 59 = .ok (.iload_n 3, 1) := by decide +kernel
theorem d_M_writeEntry_60 : decode b_M_writeEntry 60 = .ok (.bipush 13, 2) := by decide +kernel
theorem d_M_writeEntry_62 : decode b_M_writeEntry 62 = .ok (.if_icmp .ne 37, 3) := by decide +kernel
theorem d_M_writeEntry_65 : decode b_M_writeEntry 65 = .ok (.aload_n 0, 1) := by decide +kernel
theorem d_M_writeEntry_66 : decode b_M_writeEntry 66 = .ok (.iload_n 3, 1) := by decide +kernel
theorem d_M_writeEntry_67 : decode b_M_writeEntry 67 = .ok (.iload 4, 2) := by decide +kernel
theorem d_M_writeEntry_69 : decode b_M_writeEntry 69 = .ok (.aload_n 0, 1) := by decide +kernel
theorem d_M_writeEntry_70 : decode b_M_writeEntry 70 = .ok (.iload_n 1, 1) := by decide +kernel
theorem d_M_writeEntry_71 : decode b_M_writeEntry 71 = .ok (.iload_n 2, 1) := by decide +kernel
theorem d_M_writeEntry_72 : decode b_M_writeEntry 72 = .ok (.aload_n 0, 1) := by decide +kernel
theorem d_M_writeEntry_73 : decode b_M_writeEntry 73 = .ok (.getfield 54, 3) := by decide +kernel
theorem d_M_writeEntry_76 : decode b_M_writeEntry 76 = .ok (.iload_n 2, 1) := by decide +kernel
theorem d_M_writeEntry_77 : decode b_M_writeEntry 77 = .ok (.laload, 1) := by decide +kernel
theorem d_M_writeEntry_78 : decode b_M_writeEntry 78 = .ok (.invokevirtual 406, 3) := by decide +kernel
theorem d_M_writeEntry_81 : decode b_M_writeEntry 81 = .ok (.aload_n 0, 1) := by decide +kernel
theorem d_M_writeEntry_82 : decode b_M_writeEntry 82 = .ok (.iload_n 1, 1) := by decide +kernel
theorem d_M_writeEntry_83 : decode b_M_writeEntry 83 = .ok (.iload_n 2, 1) := by decide +kernel
theorem d_M_writeEntry_84 : decode b_M_writeEntry 84 = .ok (.aload_n 0, 1) := by decide +kernel
theorem d_M_writeEntry_85 : decode b_M_writeEntry 85 = .ok (.getfield 54, 3) := by decide +kernel
theorem d_M_writeEntry_88 : decode b_M_writeEntry 88 = .ok (.iload_n 2, 1) := by decide +kernel
theorem d_M_writeEntry_89 : decode b_M_writeEntry 89 = .ok (.laload, 1) := by decide +kernel
theorem d_M_writeEntry_90 : decode b_M_writeEntry 90 = .ok (.invokevirtual 410, 3) := by decide +kernel
theorem d_M_writeEntry_93 : decode b_M_writeEntry 93 = .ok (.invokevirtual 402, 3) := by decide +kernel
theorem d_M_writeEntry_96 : decode b_M_writeEntry 96 = .ok (.goto 313, 3) := by decide +kernel
theorem d_M_writeEntry_99 : decode b_M_writeEntry 99 = .ok (.iload_n 3, 1) := by decide +kernel
theorem d_M_writeEntry_100 : decode b_M_writeEntry 100 = .ok (.bipush 14, 2) := by decide +kernel
theorem d_M_writeEntry_102 : decode b_M_writeEntry 102 = .ok (.if_icmp .ne 86, 3) := by decide +kernel
theorem d_M_writeEntry_105 : decode b_M_writeEntry 105 = .ok (.aload_n 0, 1) := by decide +kernel
theorem d_M_writeEntry_106 : decode b_M_writeEntry 106 = .ok (.iload_n 3, 1) := by decide +kernel
theorem d_M_writeEntry_107 : decode b_M_writeEntry 107 = .ok (.iload 4, 2) := by decide +kernel
theorem d_M_writeEntry_109 : decode b_M_writeEntry 109 = .ok (.aload_n 0, 1) := by decide +kernel
theorem d_M_writeEntry_110 : decode b_M_writeEntry 110 = .ok (.getfield 54, 3) := by decide +kernel
theorem d_M_writeEntry_113 : decode b_M_writeEntry 113 = .ok (.iload_n 2, 1) := by decide +kernel
theorem d_M_writeEntry_114 : decode b_M_writeEntry 114 = .ok (.laload, 1) := by decide +kernel
theorem d_M_writeEntry_115 : decode b_M_writeEntry 115 = .ok (.l2i, 1) := by decide +kernel
theorem d_M_writeEntry_116 : decode b_M_writeEntry 116 = .ok (.iconst 0, 1) := by decide +kernel
theorem d_M_writeEntry_117 : decode b_M_writeEntry 117 = .ok (.invokevirtual 402, 3) := by decide +kernel
theorem d_M_writeEntry_120 : decode b_M_writeEntry 120 = .ok (.iconst 0, 1) := by decide +kernel
theorem d_M_writeEntry_121 : decode b_M_writeEntry 121 = .ok (.istore 5, 2) := by decide +kernel
theorem d_M_writeEntry_123 : decode b_M_writeEntry 123 = .ok (.iload 5, 2) := by decide +kernel
theorem d_M_writeEntry_125 : decode b_M_writeEntry 125 = .ok (.i2l, 1) := by decide +kernel
theorem d_M_writeEntry_126 : decode b_M_writeEntry 126 = .ok (.aload_n 0, 1) := by decide +kernel
theorem d_M_writeEntry_127 : decode b_M_writeEntry 127 = .ok (.getfield 54, 3) := by decide +kernel
theorem d_M_writeEntry_130 : decode b_M_writeEntry 130 = .ok (.iload_n 2, 1) := by decide +kernel
theorem d_M_writeEntry_131 : decode b_M_writeEntry 131 = .ok (.laload, 1) := by decide +kernel
theorem d_M_writeEntry_132 : decode b_M_writeEntry 132 = .ok (.lcmp, 1) := by decide +kernel
theorem d_M_writeEntry_133 : decode b_M_writeEntry 133 = .ok (.ifCond .gt 52, 3) := by decide +kernel
theorem d_M_writeEntry_136 : decode b_M_writeEntry 136 = .ok (.aload_n 0, 1) := by decide +kernel
theorem d_M_writeEntry_137 : decode b_M_writeEntry 137 = .ok (.getfield 84, 3) := by decide +kernel
theorem d_M_writeEntry_140 : decode b_M_writeEntry 140 = .ok (.aload_n 0, 1) := by decide +kernel
theorem d_M_writeEntry_141 : decode b_M_writeEntry 141 = .ok (.getfield 57, 3) := by decide +kernel
theorem d_M_writeEntry_144 : decode b_M_writeEntry 144 = .ok (.iload_n 2, 1) := by decide +kernel
theorem d_M_writeEntry_145 : decode b_M_writeEntry 145 = .ok (.laload, 1) := by decide +kernel
theorem d_M_writeEntry_146 : decode b_M_writeEntry 146 = .ok (.l2i, 1) := by decide +kernel
theorem d_M_writeEntry_147 : decode b_M_writeEntry 147 = .ok (.iload 5, 2) := by decide +kernel
theorem d_M_writeEntry_149 : decode b_M_writeEntry 149 = .ok (.iadd, 1) := by decide +kernel
theorem d_M_writeEntry_150 : decode b_M_writeEntry 150 = .ok (.laload, 1) := by decide +kernel
theorem d_M_writeEntry_151 : decode b_M_writeEntry 151 = .ok (.lstore 6, 2) := by decide +kernel
theorem d_M_writeEntry_153 : decode b_M_writeEntry 153 = .ok (.aload_n 0, 1) := by decide +kernel
theorem d_M_writeEntry_154 : decode b_M_writeEntry 154 = .ok (.bipush 12, 2) := by decide +kernel
theorem d_M_writeEntry_156 : decode b_M_writeEntry 156 = .ok (.iload 4, 2) := by decide +kernel
theorem d_M_writeEntry_158 : decode b_M_writeEntry 158 = .ok (.iconst 1, 1) := by decide +kernel
theorem d_M_writeEntry_159 : decode b_M_writeEntry 159 = .ok (.isub, 1) := by decide +kernel
theorem d_M_writeEntry_160 : decode b_M_writeEntry 160 = .ok (.aload_n 0, 1) := by decide +kernel
theorem d_M_writeEntry_161 : decode b_M_writeEntry 161 = .ok (.iload_n 1, 1) := by decide +kernel
theorem d_M_writeEntry_162 : decode b_M_writeEntry 162 = .ok (.iload_n 2, 1) := by decide +kernel
theorem d_M_writeEntry_163 : decode b_M_writeEntry 163 = .ok (.lload 6, 2) := by decide +kernel
theorem d_M_writeEntry_165 : decode b_M_writeEntry 165 = .ok (.invokevirtual 406, 3) := by decide +kernel
theorem d_M_writeEntry_168 : decode b_M_writeEntry 168 = .ok (.aload_n 0, 1) := by decide +kernel
theorem d_M_writeEntry_169 : decode b_M_writeEntry 169 = .ok (.iload_n 1, 1) := by decide +kernel
theorem d_M_writeEntry_170 : decode b_M_writeEntry 170 = .ok (.iload_n 2, 1) := by decide +kernel
theorem d_M_writeEntry_171 : decode b_M_writeEntry 171 = .ok (.lload 6, 2) := by decide +kernel
theorem d_M_writeEntry_173 : decode b_M_writeEntry 173 = .ok (.invokevirtual 410, 3) := by decide +kernel
theorem d_M_writeEntry_176 : decode b_M_writeEntry 176 = .ok (.invokevirtual 402, 3) := by decide +kernel
theorem d_M_writeEntry_179 : decode b_M_writeEntry 179 = .ok (.iinc 5 1, 3) := by decide +kernel
theorem d_M_writeEntry_182 : decode b_M_writeEntry 182 = .ok (.goto (-59), 3) := by decide +kernel
theorem d_M_writeEntry_185 : decode b_M_writeEntry 185 = .ok (.goto 224, 3) := by decide +kernel
theorem d_M_writeEntry_188 : decode b_M_writeEntry 188 = .ok (.iload_n 3, 1) := by decide +kernel
theorem d_M_writeEntry_189 : decode b_M_writeEntry 189 = .ok (.iconst 4, 1) := by decide +kernel
theorem d_M_writeEntry_190 : decode b_M_writeEntry 190 = .ok (.if_icmp .ne 51, 3) := by decide +kernel
theorem d_M_writeEntry_193 : decode b_M_writeEntry 193 = .ok (.aload_n 0, 1) := by decide +kernel
theorem d_M_writeEntry_194 : decode b_M_writeEntry 194 = .ok (.iload_n 3, 1) := by decide +kernel
theorem d_M_writeEntry_195 : decode b_M_writeEntry 195 = .ok (.iload 4, 2) := by decide +kernel
theorem d_M_writeEntry_197 : decode b_M_writeEntry 197 = .ok (.aload_n 0, 1) := by decide +kernel
theorem d_M_writeEntry_198 : decode b_M_writeEntry 198 = .ok (.getfield 66, 3) := by decide +kernel
theorem d_M_writeEntry_201 : decode b_M_writeEntry 201 = .ok (.iload_n 2, 1) := by decide +kernel
theorem d_M_writeEntry_202 : decode b_M_writeEntry 202 = .ok (.iaload, 1) := by decide +kernel
theorem d_M_writeEntry_203 : decode b_M_writeEntry 203 = .ok (.iconst (-1), 1) := by decide +kernel
theorem d_M_writeEntry_204 : decode b_M_writeEntry 204 = .ok (.if_icmp .ne 17, 3) := by decide +kernel
theorem d_M_writeEntry_207 : decode b_M_writeEntry 207 = .ok (.aload_n 0, 1) := by decide +kernel
theorem d_M_writeEntry_208 : decode b_M_writeEntry 208 = .ok (.getfield 72, 3) := by decide +kernel
theorem d_M_writeEntry_211 : decode b_M_writeEntry 211 = .ok (.aload_n 0, 1) := by decide +kernel
theorem d_M_writeEntry_212 : decode b_M_writeEntry 212 = .ok (.getfield 63, 3) := by decide +kernel
theorem d_M_writeEntry_215 : decode b_M_writeEntry 215 = .ok (.iload_n 2, 1) := by decide +kernel
theorem d_M_writeEntry_216 : decode b_M_writeEntry 216 = .ok (.iaload, 1) := by decide +kernel
theorem d_M_writeEntry_217 : decode b_M_writeEntry 217 = .ok (.iaload, 1) := by decide +kernel
theorem d_M_writeEntry_218 : decode b_M_writeEntry 218 = .ok (.goto 16, 3) := by decide +kernel
theorem d_M_writeEntry_221 : decode b_M_writeEntry 221 = .ok (.aload_n 0, 1) := by decide +kernel
theorem d_M_writeEntry_222 : decode b_M_writeEntry 222 = .ok (.getfield 72, 3) := by decide +kernel
theorem d_M_writeEntry_225 : decode b_M_writeEntry 225 = .ok (.aload_n 0, 1) := by decide +kernel
theorem d_M_writeEntry_226 : decode b_M_writeEntry 226 = .ok (.getfield 66, 3) := by decide +kernel
theorem d_M_writeEntry_229 : decode b_M_writeEntry 229 = .ok (.iload_n 2, 1) := by decide +kernel
theorem d_M_writeEntry_230 : decode b_M_writeEntry 230 = .ok (.iaload, 1) := by decide +kernel
theorem d_M_writeEntry_231 : decode b_M_writeEntry 231 = .ok (.iconst 1, 1) := by decide +kernel
theorem d_M_writeEntry_232 : decode b_M_writeEntry 232 = .ok (.iadd, 1) := by decide +kernel
theorem d_M_writeEntry_233 : decode b_M_writeEntry 233 = .ok (.iaload, 1) := by decide +kernel
theorem d_M_writeEntry_234 : decode b_M_writeEntry 234 = .ok (.iconst 0, 1) := by decide +kernel
theorem d_M_writeEntry_235 : decode b_M_writeEntry 235 = .ok (.invokevirtual 402, 3) := by decide +kernel
theorem d_M_writeEntry_238 : decode b_M_writeEntry 238 = .ok (.goto 171, 3) := by decide +kernel
theorem d_M_writeEntry_241 : decode b_M_writeEntry 241 = .ok (.iload_n 3, 1) := by decide +kernel
theorem d_M_writeEntry_242 : decode b_M_writeEntry 242 = .ok (.iconst 5, 1) := by decide +kernel
theorem d_M_writeEntry_243 : decode b_M_writeEntry 243 = .ok (.if_icmp .ne 30, 3) := by decide +kernel
theorem d_M_writeEntry_246 : decode b_M_writeEntry 246 = .ok (.aload_n 0, 1) := by decide +kernel
theorem d_M_writeEntry_247 : decode b_M_writeEntry 247 = .ok (.iload_n 3, 1) := by decide +kernel
theorem d_M_writeEntry_248 : decode b_M_writeEntry 248 = .ok (.iload 4, 2) := by decide +kernel
theorem d_M_writeEntry_250 : decode b_M_writeEntry 250 = .ok (.aload_n 0, 1) := by decide +kernel
theorem d_M_writeEntry_251 : decode b_M_writeEntry 251 = .ok (.getfield 72, 3) := by decide +kernel
theorem d_M_writeEntry_254 : decode b_M_writeEntry 254 = .ok (.aload_n 0, 1) := by decide +kernel
theorem d_M_writeEntry_255 : decode b_M_writeEntry 255 = .ok (.getfield 63, 3) := by decide +kernel
theorem d_M_writeEntry_258 : decode b_M_writeEntry 258 = .ok (.aload_n 0, 1) := by decide +kernel
theorem d_M_writeEntry_259 : decode b_M_writeEntry 259 = .ok (.getfield 60, 3) := by decide +kernel
theorem d_M_writeEntry_262 : decode b_M_writeEntry 262 = .ok (.iload_n 2, 1) := by decide +kernel
theorem d_M_writeEntry_263 : decode b_M_writeEntry 263 = .ok (.iaload, 1) := by decide +kernel
theorem d_M_writeEntry_264 : decode b_M_writeEntry 264 = .ok (.iaload, 1) := by decide +kernel
theorem d_M_writeEntry_265 : decode b_M_writeEntry 265 = .ok (.iaload, 1) := by decide +kernel
theorem d_M_writeEntry_266 : decode b_M_writeEntry 266 = .ok (.iconst 0, 1) := by decide +kernel
theorem d_M_writeEntry_267 : decode b_M_writeEntry 267 = .ok (.invokevirtual 402, 3) := by decide +kernel
theorem d_M_writeEntry_270 : decode b_M_writeEntry 270 = .ok (.goto 139, 3) := by decide +kernel
theorem d_M_writeEntry_273 : decode b_M_writeEntry 273 = .ok (.iload_n 3, 1) := by decide +kernel
theorem d_M_writeEntry_274 : decode b_M_writeEntry 274 = .ok (.bipush 16, 2) := by decide +kernel
theorem d_M_writeEntry_276 : decode b_M_writeEntry 276 = .ok (.if_icmp .ne 40, 3) := by decide +kernel
theorem d_M_writeEntry_279 : decode b_M_writeEntry 279 = .ok (.aload_n 0, 1) := by decide +kernel
theorem d_M_writeEntry_280 : decode b_M_writeEntry 280 = .ok (.getfield 54, 3) := by decide +kernel
theorem d_M_writeEntry_283 : decode b_M_writeEntry 283 = .ok (.iload_n 2, 1) := by decide +kernel
theorem d_M_writeEntry_284 : decode b_M_writeEntry 284 = .ok (.laload, 1) := by decide +kernel
theorem d_M_writeEntry_285 : decode b_M_writeEntry 285 = .ok (.l2i, 1) := by decide +kernel
theorem d_M_writeEntry_286 : decode b_M_writeEntry 286 = .ok (.istore 5, 2) := by decide +kernel
theorem d_M_writeEntry_288 : decode b_M_writeEntry 288 = .ok (.aload_n 0, 1) := by decide +kernel
theorem d_M_writeEntry_289 : decode b_M_writeEntry 289 = .ok (.iload_n 3, 1) := by decide +kernel
theorem d_M_writeEntry_290 : decode b_M_writeEntry 290 = .ok (.iload 4, 2) := by decide +kernel
theorem d_M_writeEntry_292 : decode b_M_writeEntry 292 = .ok (.aload_n 0, 1) := by decide +kernel
theorem d_M_writeEntry_293 : decode b_M_writeEntry 293 = .ok (.getfield 72, 3) := by decide +kernel
theorem d_M_writeEntry_296 : decode b_M_writeEntry 296 = .ok (.aload_n 0, 1) := by decide +kernel
theorem d_M_writeEntry_297 : decode b_M_writeEntry 297 = .ok (.getfield 75, 3) := by decide +kernel
theorem d_M_writeEntry_300 : decode b_M_writeEntry 300 = .ok (.iload 5, 2) := by decide +kernel
theorem d_M_writeEntry_302 : decode b_M_writeEntry 302 = .ok (.iaload, 1) := by decide +kernel
theorem d_M_writeEntry_303 : decode b_M_writeEntry 303 = .ok (.iaload, 1) := by decide +kernel
theorem d_M_writeEntry_304 : decode b_M_writeEntry 304 = .ok (.aload_n 0, 1) := by decide +kernel
theorem d_M_writeEntry_305 : decode b_M_writeEntry 305 = .ok (.iload 5, 2) := by decide +kernel
theorem d_M_writeEntry_307 : decode b_M_writeEntry 307 = .ok (.invokevirtual 258, 3) := by decide +kernel
theorem d_M_writeEntry_310 : decode b_M_writeEntry 310 = .ok (.invokevirtual 402, 3) := by decide +kernel
theorem d_M_writeEntry_313 : decode b_M_writeEntry 313 = .ok (.goto 96, 3) := by decide +kernel
theorem d_M_writeEntry_316 : decode b_M_writeEntry 316 = .ok (.iload_n 3, 1) := by decide +kernel
theorem d_M_writeEntry_317 : decode b_M_writeEntry 317 = .ok (.bipush 15, 2) := by decide +kernel
theorem d_M_writeEntry_319 : decode b_M_writeEntry 319 = .ok (.if_icmp .ne 19, 3) := by decide +kernel
theorem d_M_writeEntry_322 : decode b_M_writeEntry 322 = .ok (.aload_n 0, 1) := by decide +kernel
theorem d_M_writeEntry_323 : decode b_M_writeEntry 323 = .ok (.iload_n 3, 1) := by decide +kernel
theorem d_M_writeEntry_324 : decode b_M_writeEntry 324 = .ok (.iload 4, 2) := by decide +kernel
theorem d_M_writeEntry_326 : decode b_M_writeEntry 326 = .ok (.iconst 0, 1) := by decide +kernel
theorem d_M_writeEntry_327 : decode b_M_writeEntry 327 = .ok (.aload_n 0, 1) := by decide +kernel
theorem d_M_writeEntry_328 : decode b_M_writeEntry 328 = .ok (.iload_n 1, 1) := by decide +kernel
theorem d_M_writeEntry_329 : decode b_M_writeEntry 329 = .ok (.invokevirtual 292, 3) := by decide +kernel
theorem d_M_writeEntry_332 : decode b_M_writeEntry 332 = .ok (.invokevirtual 402, 3) := by decide +kernel
theorem d_M_writeEntry_335 : decode b_M_writeEntry 335 = .ok (.goto 74, 3) := by decide +kernel
theorem d_M_writeEntry_338 : decode b_M_writeEntry 338 = .ok (.iload_n 3, 1) := by decide +kernel
theorem d_M_writeEntry_339 : decode b_M_writeEntry 339 = .ok (.bipush 31, 2) := by decide +kernel
theorem d_M_writeEntry_341 : decode b_M_writeEntry 341 = .ok (.if_icmp .le 9, 3) := by decide +kernel
theorem d_M_writeEntry_344 : decode b_M_writeEntry 344 = .ok (.iload_n 3, 1) := by decide +kernel
theorem d_M_writeEntry_345 : decode b_M_writeEntry 345 = .ok (.bipush 37, 2) := by decide +kernel
theorem d_M_writeEntry_347 : decode b_M_writeEntry 347 = .ok (.if_icmp .lt 9, 3) := by decide +kernel
theorem d_M_writeEntry_350 : decode b_M_writeEntry 350 = .ok (.iload_n 3, 1) := by decide +kernel
theorem d_M_writeEntry_351 : decode b_M_writeEntry 351 = .ok (.bipush 65, 2) := by decide +kernel
theorem d_M_writeEntry_353 : decode b_M_writeEntry 353 = .ok (.if_icmp .ne 7, 3) := by decide +kernel
theorem d_M_writeEntry_356 : decode b_M_writeEntry 356 = .ok (.iconst 1, 1) := by decide +kernel
theorem d_M_writeEntry_357 : decode b_M_writeEntry 357 = .ok (.goto 4, 3) := by decide +kernel
theorem d_M_writeEntry_360 : decode b_M_writeEntry 360 = .ok (.iconst 0, 1) := by decide +kernel
theorem d_M_writeEntry_361 : decode b_M_writeEntry 361 = .ok (.istore 5, 2) := by decide +kernel
theorem d_M_writeEntry_363 : decode b_M_writeEntry 363 = .ok (.aload_n 0, 1) := by decide +kernel
theorem d_M_writeEntry_364 : decode b_M_writeEntry 364 = .ok (.iload_n 3, 1) := by decide +kernel
theorem d_M_writeEntry_365 : decode b_M_writeEntry 365 = .ok (.iload 4, 2) := by decide +kernel
theorem d_M_writeEntry_367 : decode b_M_writeEntry 367 = .ok (.iload 5, 2) := by decide +kernel
theorem d_M_writeEntry_369 : decode b_M_writeEntry 369 = .ok (.ifCond .eq 13, 3) := by decide +kernel
theorem d_M_writeEntry_372 : decode b_M_writeEntry 372 = .ok (.aload_n 0, 1) := by decide +kernel
theorem d_M_writeEntry_373 : decode b_M_writeEntry 373 = .ok (.getfield 54, 3) := by decide +kernel
theorem d_M_writeEntry_376 : decode b_M_writeEntry 376 = .ok (.iload_n 2, 1) := by decide +kernel
theorem d_M_writeEntry_377 : decode b_M_writeEntry 377 = .ok (.laload, 1) := by decide +kernel
theorem d_M_writeEntry_378 : decode b_M_writeEntry 378 = .ok (.l2i, 1) := by decide +kernel
theorem d_M_writeEntry_379 : decode b_M_writeEntry 379 = .ok (.goto 26, 3) := by decide +kernel
theorem d_M_writeEntry_382 : decode b_M_writeEntry 382 = .ok (.iload_n 3, 1) := by decide +kernel
theorem d_M_writeEntry_383 : decode b_M_writeEntry 383 = .ok (.bipush 39, 2) := by decide +kernel
theorem d_M_writeEntry_385 : decode b_M_writeEntry 385 = .ok (.if_icmp .le 19, 3) := by decide +kernel
theorem d_M_writeEntry_388 : decode b_M_writeEntry 388 = .ok (.iload_n 3, 1) := by decide +kernel
theorem d_M_writeEntry_389 : decode b_M_writeEntry 389 = .ok (.bipush 60, 2) := by decide +kernel
theorem d_M_writeEntry_391 : decode b_M_writeEntry 391 = .ok (.if_icmp .ge 13, 3) := by decide +kernel
theorem d_M_writeEntry_394 : decode b_M_writeEntry 394 = .ok (.aload_n 0, 1) := by decide +kernel
theorem d_M_writeEntry_395 : decode b_M_writeEntry 395 = .ok (.getfield 57, 3) := by decide +kernel
theorem d_M_writeEntry_398 : decode b_M_writeEntry 398 = .ok (.iload_n 2, 1) := by decide +kernel
theorem d_M_writeEntry_399 : decode b_M_writeEntry 399 = .ok (.laload, 1) := by decide +kernel
theorem d_M_writeEntry_400 : decode b_M_writeEntry 400 = .ok (.l2i, 1) := by decide +kernel
theorem d_M_writeEntry_401 : decode b_M_writeEntry 401 = .ok (.goto 4, 3) := by decide +kernel
theorem d_M_writeEntry_404 : decode b_M_writeEntry 404 = .ok (.iconst 0, 1) := by decide +kernel
theorem d_M_writeEntry_405 : decode b_M_writeEntry 405 = .ok (.iconst 0, 1) := by decide +kernel
theorem d_M_writeEntry_406 : decode b_M_writeEntry 406 = .ok (.invokevirtual 402, 3) := by decide +kernel
theorem d_M_writeEntry_409 : decode b_M_writeEntry 409 = .ok (.return_, 1) := by decide +kernel
theorem d_M_compile_0 : decode b_M_compile 0 = .ok (.aload_n 0, 1) := by decide +kernel
theorem d_M_compile_1 : decode b_M_compile 1 = .ok (.iconst 0, 1) := by decide +kernel
theorem d_M_compile_2 : decode b_M_compile 2 = .ok (.putfield 120, 3) := by decide +kernel
theorem d_M_compile_5 : decode b_M_compile 5 = .ok (.aload_n 0, 1) := by decide +kernel
theorem d_M_compile_6 : decode b_M_compile 6 = .ok (.getfield 127, 3) := by decide +kernel
theorem d_M_compile_9 : decode b_M_compile 9 = .ok (.ifCond .ne 5, 3) := by decide +kernel
theorem d_M_compile_12 : decode b_M_compile 12 = .ok (.iconst 1, 1) := by decide +kernel
theorem d_M_compile_13 : decode b_M_compile 13 = .ok (.ireturn, 1) := by decide +kernel
theorem d_M_compile_14 : decode b_M_compile 14 = .ok (.aload_n 0, 1) := by decide +kernel
theorem d_M_compile_15 : decode b_M_compile 15 = .ok (.iconst 1, 1) := by decide +kernel
theorem d_M_compile_16 : decode b_M_compile 16 = .ok (.putfield 140, 3) := by decide +kernel
theorem d_M_compile_19 : decode b_M_compile 19 = .ok (.aload_n 0, 1) := by decide +kernel
theorem d_M_compile_20 : decode b_M_compile 20 = .ok (.iconst 0, 1) := by decide +kernel
theorem d_M_compile_21 : decode b_M_compile 21 = .ok (.putfield 143, 3) := by decide +kernel
theorem d_M_compile_24 : decode b_M_compile 24 = .ok (.iconst 0, 1) := by decide +kernel
theorem d_M_compile_25 : decode b_M_compile 25 = .ok (.istore_n 1, 1) := by decide +kernel
theorem d_M_compile_26 : decode b_M_compile 26 = .ok (.iconst 0, 1) := by decide +kernel
theorem d_M_compile_27 : decode b_M_compile 27 = .ok (.istore_n 2, 1) := by decide +kernel
theorem d_M_compile_28 : decode b_M_compile 28 = .ok (.iload_n 2, 1) := by decide +kernel
theorem d_M_compile_29 : decode b_M_compile 29 = .ok (.aload_n 0, 1) := by decide +kernel
theorem d_M_compile_30 : decode b_M_compile 30 = .ok (.getfield 188, 3) := by decide +kernel
theorem d_M_compile_33 : decode b_M_compile 33 = .ok (.if_icmp .ge 16, 3) := by decide +kernel
theorem d_M_compile_36 : decode b_M_compile 36 = .ok (.aload_n 0, 1) := by decide +kernel
theorem d_M_compile_37 : decode b_M_compile 37 = .ok (.iload_n 2, 1) := by decide +kernel
theorem d_M_compile_38 : decode b_M_compile 38 = .ok (.iload_n 1, 1) := by decide +kernel
theorem d_M_compile_39 : decode b_M_compile 39 = .ok (.invokevirtual 413, 3) := by decide +kernel
theorem d_M_compile_42 : decode b_M_compile 42 = .ok (.istore_n 1, 1) := by decide +kernel
theorem d_M_compile_43 : decode b_M_compile 43 = .ok (.iinc 2 1, 3) := by decide +kernel
theorem d_M_compile_46 : decode b_M_compile 46 = .ok (.goto (-18), 3) := by decide +kernel
theorem d_M_compile_49 : decode b_M_compile 49 = .ok (.iconst 0, 1) := by decide +kernel
theorem d_M_compile_50 : decode b_M_compile 50 = .ok (.istore_n 2, 1) := by decide +kernel
theorem d_M_compile_51 : decode b_M_compile 51 = .ok (.iload_n 2, 1) := by decide +kernel
theorem d_M_compile_52 : decode b_M_compile 52 = .ok (.aload_n 0, 1) := by decide +kernel
theorem d_M_compile_53 : decode b_M_compile 53 = .ok (.getfield 188, 3) := by decide +kernel
theorem d_M_compile_56 : decode b_M_compile 56 = .ok (.if_icmp .ge 99, 3) := by decide +kernel
theorem d_M_compile_59 : decode b_M_compile 59 = .ok (.aload_n 0, 1) := by decide +kernel
theorem d_M_compile_60 : decode b_M_compile 60 = .ok (.getfield 75, 3) := by decide +kernel
theorem d_M_compile_63 : decode b_M_compile 63 = .ok (.iload_n 2, 1) := by decide +kernel
theorem d_M_compile_64 : decode b_M_compile 64 = .ok (.iaload, 1) := by decide +kernel
theorem d_M_compile_65 : decode b_M_compile 65 = .ok (.istore_n 3, 1) := by decide +kernel
theorem d_M_compile_66 : decode b_M_compile 66 = .ok (.iload_n 3, 1) := by decide +kernel
theorem d_M_compile_67 : decode b_M_compile 67 = .ok (.aload_n 0, 1) := by decide +kernel
theorem d_M_compile_68 : decode b_M_compile 68 = .ok (.getfield 78, 3) := by decide +kernel
theorem d_M_compile_71 : decode b_M_compile 71 = .ok (.iload_n 2, 1) := by decide +kernel
theorem d_M_compile_72 : decode b_M_compile 72 = .ok (.iaload, 1) := by decide +kernel
theorem d_M_compile_73 : decode b_M_compile 73 = .ok (.if_icmp .gt 76, 3) := by decide +kernel
theorem d_M_compile_76 : decode b_M_compile 76 = .ok (.iload_n 3, 1) := by decide +kernel
theorem d_M_compile_77 : decode b_M_compile 77 = .ok (.aload_n 0, 1) := by decide +kernel
theorem d_M_compile_78 : decode b_M_compile 78 = .ok (.getfield 78, 3) := by decide +kernel
theorem d_M_compile_81 : decode b_M_compile 81 = .ok (.iload_n 2, 1) := by decide +kernel
theorem d_M_compile_82 : decode b_M_compile 82 = .ok (.iaload, 1) := by decide +kernel
theorem d_M_compile_83 : decode b_M_compile 83 = .ok (.if_icmp .ge 14, 3) := by decide +kernel
theorem d_M_compile_86 : decode b_M_compile 86 = .ok (.aload_n 0, 1) := by decide +kernel
theorem d_M_compile_87 : decode b_M_compile 87 = .ok (.getfield 72, 3) := by decide +kernel
theorem d_M_compile_90 : decode b_M_compile 90 = .ok (.iload_n 3, 1) := by decide +kernel
theorem d_M_compile_91 : decode b_M_compile 91 = .ok (.iconst 1, 1) := by decide +kernel
theorem d_M_compile_92 : decode b_M_compile 92 = .ok (.iadd, 1) := by decide +kernel
theorem d_M_compile_93 : decode b_M_compile 93 = .ok (.iaload, 1) := by decide +kernel
theorem d_M_compile_94 : decode b_M_compile 94 = .ok (.goto 30, 3) := by decide +kernel
theorem d_M_compile_97 : decode b_M_compile 97 = .ok (.iload_n 2, 1) := by decide +kernel
theorem d_M_compile_98 : decode b_M_compile 98 = .ok (.iconst 1, 1) := by decide +kernel
theorem d_M_compile_99 : decode b_M_compile 99 = .ok (.iadd, 1) := by decide +kernel
theorem d_M_compile_100 : decode b_M_compile 100 = .ok (.aload_n 0, 1) := by decide +kernel
theorem d_M_compile_101 : decode b_M_compile 101 = .ok (.getfield 188, 3) := by decide +kernel
theorem d_M_compile_104 : decode b_M_compile 104 = .ok (.if_icmp .ge 19, 3) := by decide +kernel
theorem d_M_compile_107 : decode b_M_compile 107 = .ok (.aload_n 0, 1) := by decide +kernel
theorem d_M_compile_108 : decode b_M_compile 108 = .ok (.getfield 72, 3) := by decide +kernel
theorem d_M_compile_111 : decode b_M_compile 111 = .ok (.aload_n 0, 1) := by decide +kernel
theorem d_M_compile_112 : decode b_M_compile 112 = .ok (.getfield 75, 3) := by decide +kernel
theorem d_M_compile_115 : decode b_M_compile 115 = .ok (.iload_n 2, 1) := by decide +kernel
theorem d_M_compile_116 : decode b_M_compile 116 = .ok (.iconst 1, 1) := by decide +kernel
theorem d_M_compile_117 : decode b_M_compile 117 = .ok (.iadd, 1) := by decide +kernel
theorem d_M_compile_118 : decode b_M_compile 118 = .ok (.iaload, 1) := by decide +kernel
theorem d_M_compile_119 : decode b_M_compile 119 = .ok (.iaload, 1) := by decide +kernel
theorem d_M_compile_120 : decode b_M_compile 120 = .ok (.goto 4, 3) := by decide +kernel
theorem d_M_compile_123 : decode b_M_compile 123 = .ok (.iload_n 1, 1) := by decide +kernel
theorem d_M_compile_124 : decode b_M_compile 124 = .ok (.istore 4, 2) := by decide +kernel
theorem d_M_compile_126 : decode b_M_compile 126 = .ok (.iload 4, 2) := by decide +kernel
theorem d_M_compile_128 : decode b_M_compile 128 = .ok (.aload_n 0, 1) := by decide +kernel
theorem d_M_compile_129 : decode b_M_compile 129 = .ok (.getfield 72, 3) := by decide +kernel
theorem d_M_compile_132 : decode b_M_compile 132 = .ok (.iload_n 3, 1) := by decide +kernel
theorem d_M_compile_133 : decode b_M_compile 133 = .ok (.iaload, 1) := by decide +kernel
theorem d_M_compile_134 : decode b_M_compile 134 = .ok (.if_icmp .le 9, 3) := by decide +kernel
theorem d_M_compile_137 : decode b_M_compile 137 = .ok (.aload_n 0, 1) := by decide +kernel
theorem d_M_compile_138 : decode b_M_compile 138 = .ok (.iload_n 2, 1) := by decide +kernel
theorem d_M_compile_139 : decode b_M_compile 139 = .ok (.iload_n 3, 1) := by decide +kernel
theorem d_M_compile_140 : decode b_M_compile 140 = .ok (.invokevirtual 416, 3) := by decide +kernel
theorem d_M_compile_143 : decode b_M_compile 143 = .ok (.iinc 3 1, 3) := by decide +kernel
theorem d_M_compile_146 : decode b_M_compile 146 = .ok (.goto (-80), 3) := by decide +kernel
theorem d_M_compile_149 : decode b_M_compile 149 = .ok (.iinc 2 1, 3) := by decide +kernel
theorem d_M_compile_152 : decode b_M_compile 152 = .ok (.goto (-101), 3) := by decide +kernel
theorem d_M_compile_155 : decode b_M_compile 155 = .ok (.iconst 0, 1) := by decide +kernel
theorem d_M_compile_156 : decode b_M_compile 156 = .ok (.ireturn, 1) := by decide +kernel
theorem d_M_arg_0 : decode b_M_arg 0 = .ok (.aload_n 0, 1) := by decide +kernel
theorem d_M_arg_1 : decode b_M_arg 1 = .ok (.iconst 0, 1) := by decide +kernel
theorem d_M_arg_2 : decode b_M_arg 2 = .ok (.putfield 120, 3) := by decide +kernel
theorem d_M_arg_5 : decode b_M_arg 5 = .ok (.aload_n 0, 1) := by decide +kernel
theorem d_M_arg_6 : decode b_M_arg 6 = .ok (.getfield 127, 3) := by decide +kernel
theorem d_M_arg_9 : decode b_M_arg 9 = .ok (.ifCond .eq 18, 3) := by decide +kernel
theorem d_M_arg_12 : decode b_M_arg 12 = .ok (.aload_n 0, 1) := by decide +kernel
theorem d_M_arg_13 : decode b_M_arg 13 = .ok (.getfield 134, 3) := by decide +kernel
theorem d_M_arg_16 : decode b_M_arg 16 = .ok (.ifCond .ne 11, 3) := by decide +kernel
theorem d_M_arg_19 : decode b_M_arg 19 = .ok (.aload_n 0, 1) := by decide +kernel
theorem d_M_arg_20 : decode b_M_arg 20 = .ok (.getfield 131, 3) := by decide +kernel
theorem d_M_arg_23 : decode b_M_arg 23 = .ok (.iconst 4, 1) := by decide +kernel
theorem d_M_arg_24 : decode b_M_arg 24 = .ok (.if_icmp .ne 5, 3) := by decide +kernel
theorem d_M_arg_27 : decode b_M_arg 27 = .ok (.iconst 0, 1) := by decide +kernel
theorem d_M_arg_28 : decode b_M_arg 28 = .ok (.ireturn, 1) := by decide +kernel
theorem d_M_arg_29 : decode b_M_arg 29 = .ok (.aload_n 0, 1) := by decide +kernel
theorem d_M_arg_30 : decode b_M_arg 30 = .ok (.getfield 102, 3) := by decide +kernel
theorem d_M_arg_33 : decode b_M_arg 33 = .ok (.aload_n 0, 1) := by decide +kernel
theorem d_M_arg_34 : decode b_M_arg 34 = .ok (.getfield 131, 3) := by decide +kernel
theorem d_M_arg_37 : decode b_M_arg 37 = .ok (.iload_n 1, 1) := by decide +kernel
theorem d_M_arg_38 : decode b_M_arg 38 = .ok (.iastore, 1) := by decide +kernel
theorem d_M_arg_39 : decode b_M_arg 39 = .ok (.aload_n 0, 1) := by decide +kernel
theorem d_M_arg_40 : decode b_M_arg 40 = .ok (.dup, 1) := by decide +kernel
theorem d_M_arg_41 : decode b_M_arg 41 = .ok (.getfield 131, 3) := by decide +kernel
theorem d_M_arg_44 : decode b_M_arg 44 = .ok (.iconst 1, 1) := by decide +kernel
theorem d_M_arg_45 : decode b_M_arg 45 = .ok (.iadd, 1) := by decide +kernel
theorem d_M_arg_46 : decode b_M_arg 46 = .ok (.putfield 131, 3) := by decide +kernel
theorem d_M_arg_49 : decode b_M_arg 49 = .ok (.iconst 1, 1) := by decide +kernel
theorem d_M_arg_50 : decode b_M_arg 50 = .ok (.ireturn, 1) := by decide +kernel
theorem d_M_enter_0 : decode b_M_enter 0 = .ok (.aload_n 0, 1) := by decide +kernel
theorem d_M_enter_1 : decode b_M_enter 1 = .ok (.dup, 1) := by decide +kernel
theorem d_M_enter_2 : decode b_M_enter 2 = .ok (.getfield 340, 3) := by decide +kernel
theorem d_M_enter_5 : decode b_M_enter 5 = .ok (.iconst 1, 1) := by decide +kernel
theorem d_M_enter_6 : decode b_M_enter 6 = .ok (.iadd, 1) := by decide +kernel
theorem d_M_enter_7 : decode b_M_enter 7 = .ok (.putfield 340, 3) := by decide +kernel
theorem d_M_enter_10 : decode b_M_enter 10 = .ok (.aload_n 0, 1) := by decide +kernel
theorem d_M_enter_11 : decode b_M_enter 11 = .ok (.getfield 105, 3) := by decide +kernel
theorem d_M_enter_14 : decode b_M_enter 14 = .ok (.aload_n 0, 1) := by decide +kernel
theorem d_M_enter_15 : decode b_M_enter 15 = .ok (.getfield 340, 3) := by decide +kernel
theorem d_M_enter_18 : decode b_M_enter 18 = .ok (.iload_n 1, 1) := by decide +kernel
theorem d_M_enter_19 : decode b_M_enter 19 = .ok (.iastore, 1) := by decide +kernel
theorem d_M_enter_20 : decode b_M_enter 20 = .ok (.aload_n 0, 1) := by decide +kernel
theorem d_M_enter_21 : decode b_M_enter 21 = .ok (.getfield 108, 3) := by decide +kernel
theorem d_M_enter_24 : decode b_M_enter 24 = .ok (.aload_n 0, 1) := by decide +kernel
theorem d_M_enter_25 : decode b_M_enter 25 = .ok (.getfield 340, 3) := by decide +kernel
theorem d_M_enter_28 : decode b_M_enter 28 = .ok (.aload_n 0, 1) := by decide +kernel
theorem d_M_enter_29 : decode b_M_enter 29 = .ok (.getfield 75, 3) := by decide +kernel
theorem d_M_enter_32 : decode b_M_enter 32 = .ok (.iload_n 1, 1) := by decide +kernel
theorem d_M_enter_33 : decode b_M_enter 33 = .ok (.iaload, 1) := by decide +kernel
theorem d_M_enter_34 : decode b_M_enter 34 = .ok (.iastore, 1) := by decide +kernel
theorem d_M_enter_35 : decode b_M_enter 35 = .ok (.aload_n 0, 1) := by decide +kernel
theorem d_M_enter_36 : decode b_M_enter 36 = .ok (.getfield 111, 3) := by decide +kernel
theorem d_M_enter_39 : decode b_M_enter 39 = .ok (.aload_n 0, 1) := by decide +kernel
theorem d_M_enter_40 : decode b_M_enter 40 = .ok (.getfield 340, 3) := by decide +kernel
theorem d_M_enter_43 : decode b_M_enter 43 = .ok (.aload_n 0, 1) := by decide +kernel
theorem d_M_enter_44 : decode b_M_enter 44 = .ok (.getfield 343, 3) := by decide +kernel
theorem d_M_enter_47 : decode b_M_enter 47 = .ok (.aload_n 0, 1) := by decide +kernel
theorem d_M_enter_48 : decode b_M_enter 48 = .ok (.iload_n 1, 1) := by decide +kernel
theorem d_M_enter_49 : decode b_M_enter 49 = .ok (.invokevirtual 258, 3) := by decide +kernel
theorem d_M_enter_52 : decode b_M_enter 52 = .ok (.isub, 1) := by decide +kernel
theorem d_M_enter_53 : decode b_M_enter 53 = .ok (.iastore, 1) := by decide +kernel
theorem d_M_enter_54 : decode b_M_enter 54 = .ok (.iconst 0, 1) := by decide +kernel
theorem d_M_enter_55 : decode b_M_enter 55 = .ok (.istore_n 2, 1) := by decide +kernel
theorem d_M_enter_56 : decode b_M_enter 56 = .ok (.iload_n 2, 1) := by decide +kernel
theorem d_M_enter_57 : decode b_M_enter 57 = .ok (.aload_n 0, 1) := by decide +kernel
theorem d_M_enter_58 : decode b_M_enter 58 = .ok (.getfield 81, 3) := by decide +kernel
theorem d_M_enter_61 : decode b_M_enter 61 = .ok (.iload_n 1, 1) := by decide +kernel
theorem d_M_enter_62 : decode b_M_enter 62 = .ok (.iaload, 1) := by decide +kernel
theorem d_M_enter_63 : decode b_M_enter 63 = .ok (.if_icmp .ge 29, 3) := by decide +kernel
theorem d_M_enter_66 : decode b_M_enter 66 = .ok (.aload_n 0, 1) := by decide +kernel
theorem d_M_enter_67 : decode b_M_enter 67 = .ok (.getfield 114, 3) := by decide +kernel
theorem d_M_enter_70 : decode b_M_enter 70 = .ok (.aload_n 0, 1) := by decide +kernel
theorem d_M_enter_71 : decode b_M_enter 71 = .ok (.getfield 343, 3) := by decide +kernel
theorem d_M_enter_74 : decode b_M_enter 74 = .ok (.iconst 0, 1) := by decide +kernel
theorem d_M_enter_75 : decode b_M_enter 75 = .ok (.iastore, 1) := by decide +kernel
theorem d_M_enter_76 : decode b_M_enter 76 = .ok (.aload_n 0, 1) := by decide +kernel
theorem d_M_enter_77 : decode b_M_enter 77 = .ok (.dup, 1) := by decide +kernel
theorem d_M_enter_78 : decode b_M_enter 78 = .ok (.getfield 343, 3) := by decide +kernel
theorem d_M_enter_81 : decode b_M_enter 81 = .ok (.iconst 1, 1) := by decide +kernel
theorem d_M_enter_82 : decode b_M_enter 82 = .ok (.iadd, 1) := by decide +kernel
theorem d_M_enter_83 : decode b_M_enter 83 = .ok (.putfield 343, 3) := by decide +kernel
theorem d_M_enter_86 : decode b_M_enter 86 = .ok (.iinc 2 1, 3) := by decide +kernel
theorem d_M_enter_89 : decode b_M_enter 89 = .ok (.goto (-33), 3) := by decide +kernel
theorem d_M_enter_92 : decode b_M_enter 92 = .ok (.return_, 1) := by decide +kernel
