theorem d_Val_take_0 : decode b_Val_take 0 = .ok (.aload_n 0, 1) := by decide +kernel
theorem d_Val_take_1 : decode b_Val_take 1 = .ok (.iconst 0, 1) := by decide +kernel
theorem d_Val_take_2 : decode b_Val_take 2 = .ok (.invokevirtual 124, 3) := by decide +kernel
theorem d_Val_take_5 : decode b_Val_take 5 = .ok (.istore_n 2, 1) := by decide +kernel
theorem d_Val_take_6 : decode b_Val_take 6 = .ok (.aload_n 0, 1) := by decide +kernel
theorem d_Val_take_7 : decode b_Val_take 7 = .ok (.getfield 96, 3) := by decide +kernel
theorem d_Val_take_10 : decode b_Val_take 10 = .ok (.iload_n 2, 1) := by decide +kernel
theorem d_Val_take_11 : decode b_Val_take 11 = .ok (.isub, 1) := by decide +kernel
theorem d_Val_take_12 : decode b_Val_take 12 = .ok (.iload_n 1, 1) := by decide +kernel
theorem d_Val_take_13 : decode b_Val_take 13 = .ok (.if_icmp .lt 14, 3) := by decide +kernel
theorem d_Val_take_16 : decode b_Val_take 16 = .ok (.aload_n 0, 1) := by decide +kernel
theorem d_Val_take_17 : decode b_Val_take 17 = .ok (.dup, 1) := by decide +kernel
theorem d_Val_take_18 : decode b_Val_take 18 = .ok (.getfield 96, 3) := by decide +kernel
theorem d_Val_take_21 : decode b_Val_take 21 = .ok (.iload_n 1, 1) := by decide +kernel
theorem d_Val_take_22 : decode b_Val_take 22 = .ok (.isub, 1) := by decide +kernel
theorem d_Val_take_23 : decode b_Val_take 23 = .ok (.putfield 96, 3) := by decide +kernel
theorem d_Val_take_26 : decode b_Val_take 26 = .ok (.return_, 1) := by decide +kernel
theorem d_Val_take_27 : decode b_Val_take 27 = .ok (.aload_n 0, 1) := by decide +kernel
theorem d_Val_take_28 : decode b_Val_take 28 = .ok (.iconst 4, 1) := by decide +kernel
theorem d_Val_take_29 : decode b_Val_take 29 = .ok (.invokevirtual 124, 3) := by decide +kernel
theorem d_Val_take_32 : decode b_Val_take 32 = .ok (.ifCond .ne 8, 3) := by decide +kernel
theorem d_Val_take_35 : decode b_Val_take 35 = .ok (.aload_n 0, 1) := by decide +kernel
theorem d_Val_take_36 : decode b_Val_take 36 = .ok (.iconst 3, 1) := by decide +kernel
theorem d_Val_take_37 : decode b_Val_take 37 = .ok (.invokevirtual 39, 3) := by decide +kernel
theorem d_Val_take_40 : decode b_Val_take 40 = .ok (.aload_n 0, 1) := by decide +kernel
theorem d_Val_take_41 : decode b_Val_take 41 = .ok (.iload_n 2, 1) := by decide +kernel
theorem d_Val_take_42 : decode b_Val_take 42 = .ok (.putfield 96, 3) := by decide +kernel
theorem d_Val_take_45 : decode b_Val_take 45 = .ok (.return_, 1) := by decide +kernel
theorem d_Val_leadAway_0 : decode b_Val_leadAway 0 = .ok (.aload_n 0, 1) := by decide +kernel
theorem d_Val_leadAway_1 : decode b_Val_leadAway 1 = .ok (.aload_n 0, 1) := by decide +kernel
theorem d_Val_leadAway_2 : decode b_Val_leadAway 2 = .ok (.iconst 0, 1) := by decide +kernel
theorem d_Val_leadAway_3 : decode b_Val_leadAway 3 = .ok (.invokevirtual 124, 3) := by decide +kernel
theorem d_Val_leadAway_6 : decode b_Val_leadAway 6 = .ok (.putfield 96, 3) := by decide +kernel
theorem d_Val_leadAway_9 : decode b_Val_leadAway 9 = .ok (.aload_n 0, 1) := by decide +kernel
theorem d_Val_leadAway_10 : decode b_Val_leadAway 10 = .ok (.getfield 14, 3) := by decide +kernel
theorem d_Val_leadAway_13 : decode b_Val_leadAway 13 = .ok (.aload_n 0, 1) := by decide +kernel
theorem d_Val_leadAway_14 : decode b_Val_leadAway 14 = .ok (.getfield 99, 3) := by decide +kernel
theorem d_Val_leadAway_17 : decode b_Val_leadAway 17 = .ok (.iconst 1, 1) := by decide +kernel
theorem d_Val_leadAway_18 : decode b_Val_leadAway 18 = .ok (.isub, 1) := by decide +kernel
theorem d_Val_leadAway_19 : decode b_Val_leadAway 19 = .ok (.iconst 4, 1) := by decide +kernel
theorem d_Val_leadAway_20 : decode b_Val_leadAway 20 = .ok (.iconst 1, 1) := by decide +kernel
theorem d_Val_leadAway_21 : decode b_Val_leadAway 21 = .ok (.invokevirtual 115, 3) := by decide +kernel
theorem d_Val_leadAway_24 : decode b_Val_leadAway 24 = .ok (.return_, 1) := by decide +kernel
theorem d_Val_give_0 : decode b_Val_give 0 = .ok (.aload_n 0, 1) := by decide +kernel
theorem d_Val_give_1 : decode b_Val_give 1 = .ok (.dup, 1) := by decide +kernel
theorem d_Val_give_2 : decode b_Val_give 2 = .ok (.getfield 96, 3) := by decide +kernel
theorem d_Val_give_5 : decode b_Val_give 5 = .ok (.iload_n 1, 1) := by decide +kernel
theorem d_Val_give_6 : decode b_Val_give 6 = .ok (.iadd, 1) := by decide +kernel
theorem d_Val_give_7 : decode b_Val_give 7 = .ok (.putfield 96, 3) := by decide +kernel
theorem d_Val_give_10 : decode b_Val_give 10 = .ok (.aload_n 0, 1) := by decide +kernel
theorem d_Val_give_11 : decode b_Val_give 11 = .ok (.getfield 96, 3) := by decide +kernel
theorem d_Val_give_14 : decode b_Val_give 14 = .ok (.bipush 16, 2) := by decide +kernel
theorem d_Val_give_16 : decode b_Val_give 16 = .ok (.if_icmp .le 8, 3) := by decide +kernel
theorem d_Val_give_19 : decode b_Val_give 19 = .ok (.aload_n 0, 1) := by decide +kernel
theorem d_Val_give_20 : decode b_Val_give 20 = .ok (.iconst 2, 1) := by decide +kernel
theorem d_Val_give_21 : decode b_Val_give 21 = .ok (.invokevirtual 39, 3) := by decide +kernel
theorem d_Val_give_24 : decode b_Val_give 24 = .ok (.return_, 1) := by decide +kernel
theorem d_Val_judgeOtherControl_0 : decode b_Val_judgeOtherControl 0 = .ok (.iload_n 1, 1) := by decide +kernel
theorem d_Val_judgeOtherControl_1 : decode b_Val_judgeOtherControl 1 = .ok (.ifCond .ne 10, 3) := by decide +kernel
theorem d_Val_judgeOtherControl_4 : decode b_Val_judgeOtherControl 4 = .ok (.aload_n 0, 1) := by decide +kernel
theorem d_Val_judgeOtherControl_5 : decode b_Val_judgeOtherControl 5 = .ok (.invokevirtual 172, 3) := by decide +kernel
theorem d_Val_judgeOtherControl_8 : decode b_Val_judgeOtherControl 8 = .ok (.goto 80, 3) := by decide +kernel
theorem d_Val_judgeOtherControl_11 : decode b_Val_judgeOtherControl 11 = .ok (.iload_n 1, 1) := by decide +kernel
theorem d_Val_judgeOtherControl_12 : decode b_Val_judgeOtherControl 12 = .ok (.bipush 15, 2) := by decide +kernel
theorem d_Val_judgeOtherControl_14 : decode b_Val_judgeOtherControl 14 = .ok (.if_icmp .ne 25, 3) := by decide +kernel
theorem d_Val_judgeOtherControl_17 : decode b_Val_judgeOtherControl 17 = .ok (.aload_n 0, 1) := by decide +kernel
theorem d_Val_judgeOtherControl_18 : decode b_Val_judgeOtherControl 18 = .ok (.aload_n 0, 1) := by decide +kernel
theorem d_Val_judgeOtherControl_19 : decode b_Val_judgeOtherControl 19 = .ok (.getfield 20, 3) := by decide +kernel
theorem d_Val_judgeOtherControl_22 : decode b_Val_judgeOtherControl 22 = .ok (.aload_n 0, 1) := by decide +kernel
theorem d_Val_judgeOtherControl_23 : decode b_Val_judgeOtherControl 23 = .ok (.getfield 93, 3) := by decide +kernel
theorem d_Val_judgeOtherControl_26 : decode b_Val_judgeOtherControl 26 = .ok (.invokevirtual 102, 3) := by decide +kernel
theorem d_Val_judgeOtherControl_29 : decode b_Val_judgeOtherControl 29 = .ok (.invokevirtual 130, 3) := by decide +kernel
theorem d_Val_judgeOtherControl_32 : decode b_Val_judgeOtherControl 32 = .ok (.aload_n 0, 1) := by decide +kernel
theorem d_Val_judgeOtherControl_33 : decode b_Val_judgeOtherControl 33 = .ok (.invokevirtual 172, 3) := by decide +kernel
theorem d_Val_judgeOtherControl_36 : decode b_Val_judgeOtherControl 36 = .ok (.goto 52, 3) := by decide +kernel
theorem d_Val_judgeOtherControl_39 : decode b_Val_judgeOtherControl 39 = .ok (.iload_n 1, 1) := by decide +kernel
theorem d_Val_judgeOtherControl_40 : decode b_Val_judgeOtherControl 40 = .ok (.bipush 16, 2) := by decide +kernel
theorem d_Val_judgeOtherControl_42 : decode b_Val_judgeOtherControl 42 = .ok (.if_icmp .ne 46, 3) := by decide +kernel
theorem d_Val_judgeOtherControl_45 : decode b_Val_judgeOtherControl 45 = .ok (.aload_n 0, 1) := by decide +kernel
theorem d_Val_judgeOtherControl_46 : decode b_Val_judgeOtherControl 46 = .ok (.getfield 20, 3) := by decide +kernel
theorem d_Val_judgeOtherControl_49 : decode b_Val_judgeOtherControl 49 = .ok (.getfield 53, 3) := by decide +kernel
theorem d_Val_judgeOtherControl_52 : decode b_Val_judgeOtherControl 52 = .ok (.iload_n 2, 1) := by decide +kernel
theorem d_Val_judgeOtherControl_53 : decode b_Val_judgeOtherControl 53 = .ok (.invokevirtual 69, 3) := by decide +kernel
theorem d_Val_judgeOtherControl_56 : decode b_Val_judgeOtherControl 56 = .ok (.ifCond .ne 8, 3) := by decide +kernel
theorem d_Val_judgeOtherControl_59 : decode b_Val_judgeOtherControl 59 = .ok (.aload_n 0, 1) := by decide +kernel
theorem d_Val_judgeOtherControl_60 : decode b_Val_judgeOtherControl 60 = .ok (.iconst 3, 1) := by decide +kernel
theorem d_Val_judgeOtherControl_61 : decode b_Val_judgeOtherControl 61 = .ok (.invokevirtual 39, 3) := by decide +kernel
theorem d_Val_judgeOtherControl_64 : decode b_Val_judgeOtherControl 64 = .ok (.aload_n 0, 1) := by decide +kernel
theorem d_Val_judgeOtherControl_65 : decode b_Val_judgeOtherControl 65 = .ok (.aload_n 0, 1) := by decide +kernel
theorem d_Val_judgeOtherControl_66 : decode b_Val_judgeOtherControl 66 = .ok (.getfield 20, 3) := by decide +kernel
theorem d_Val_judgeOtherControl_69 : decode b_Val_judgeOtherControl 69 = .ok (.iload_n 2, 1) := by decide +kernel
theorem d_Val_judgeOtherControl_70 : decode b_Val_judgeOtherControl 70 = .ok (.invokevirtual 175, 3) := by decide +kernel
theorem d_Val_judgeOtherControl_73 : decode b_Val_judgeOtherControl 73 = .ok (.invokevirtual 130, 3) := by decide +kernel
theorem d_Val_judgeOtherControl_76 : decode b_Val_judgeOtherControl 76 = .ok (.aload_n 0, 1) := by decide +kernel
theorem d_Val_judgeOtherControl_77 : decode b_Val_judgeOtherControl 77 = .ok (.aload_n 0, 1) := by decide +kernel
theorem d_Val_judgeOtherControl_78 : decode b_Val_judgeOtherControl 78 = .ok (.getfield 20, 3) := by decide +kernel
theorem d_Val_judgeOtherControl_81 : decode b_Val_judgeOtherControl 81 = .ok (.iload_n 2, 1) := by decide +kernel
theorem d_Val_judgeOtherControl_82 : decode b_Val_judgeOtherControl 82 = .ok (.invokevirtual 102, 3) := by decide +kernel
theorem d_Val_judgeOtherControl_85 : decode b_Val_judgeOtherControl 85 = .ok (.invokevirtual 160, 3) := by decide +kernel
theorem d_Val_judgeOtherControl_88 : decode b_Val_judgeOtherControl 88 = .ok (.return_, 1) := by decide +kernel
theorem d_Val_judgeOperands_0 : decode b_Val_judgeOperands 0 = .ok (.iconst 1, 1) := by decide +kernel
theorem d_Val_judgeOperands_1 : decode b_Val_judgeOperands 1 = .ok (.istore 4, 2) := by decide +kernel
theorem d_Val_judgeOperands_3 : decode b_Val_judgeOperands 3 = .ok (.iload_n 2, 1) := by decide +kernel
theorem d_Val_judgeOperands_4 : decode b_Val_judgeOperands 4 = .ok (.bipush 32, 2) := by decide +kernel
theorem d_Val_judgeOperands_6 : decode b_Val_judgeOperands 6 = .ok (.if_icmp .lt 43, 3) := by decide +kernel
theorem d_Val_judgeOperands_9 : decode b_Val_judgeOperands 9 = .ok (.iload_n 2, 1) := by decide +kernel
theorem d_Val_judgeOperands_10 : decode b_Val_judgeOperands 10 = .ok (.bipush 34, 2) := by decide +kernel
theorem d_Val_judgeOperands_12 : decode b_Val_judgeOperands 12 = .ok (.if_icmp .gt 37, 3) := by decide +kernel
theorem d_Val_judgeOperands_15 : decode b_Val_judgeOperands 15 = .ok (.iload_n 3, 1) := by decide +kernel
theorem d_Val_judgeOperands_16 : decode b_Val_judgeOperands 16 = .ok (.aload_n 0, 1) := by decide +kernel
theorem d_Val_judgeOperands_17 : decode b_Val_judgeOperands 17 = .ok (.getfield 20, 3) := by decide +kernel
theorem d_Val_judgeOperands_20 : decode b_Val_judgeOperands 20 = .ok (.getfield 53, 3) := by decide +kernel
theorem d_Val_judgeOperands_23 : decode b_Val_judgeOperands 23 = .ok (.aload_n 0, 1) := by decide +kernel
theorem d_Val_judgeOperands_24 : decode b_Val_judgeOperands 24 = .ok (.getfield 93, 3) := by decide +kernel
theorem d_Val_judgeOperands_27 : decode b_Val_judgeOperands 27 = .ok (.iconst 1, 1) := by decide +kernel
theorem d_Val_judgeOperands_28 : decode b_Val_judgeOperands 28 = .ok (.invokevirtual 65, 3) := by decide +kernel
theorem d_Val_judgeOperands_31 : decode b_Val_judgeOperands 31 = .ok (.iconst 1, 1) := by decide +kernel
theorem d_Val_judgeOperands_32 : decode b_Val_judgeOperands 32 = .ok (.isub, 1) := by decide +kernel
theorem d_Val_judgeOperands_33 : decode b_Val_judgeOperands 33 = .ok (.invokestatic 90, 3) := by decide +kernel
theorem d_Val_judgeOperands_36 : decode b_Val_judgeOperands 36 = .ok (.ifCond .ne 7, 3) := by decide +kernel
theorem d_Val_judgeOperands_39 : decode b_Val_judgeOperands 39 = .ok (.iconst 1, 1) := by decide +kernel
theorem d_Val_judgeOperands_40 : decode b_Val_judgeOperands 40 = .ok (.goto 4, 3) := by decide +kernel
theorem d_Val_judgeOperands_43 : decode b_Val_judgeOperands 43 = .ok (.iconst 0, 1) := by decide +kernel
theorem d_Val_judgeOperands_44 : decode b_Val_judgeOperands 44 = .ok (.istore 4, 2) := by decide +kernel
theorem d_Val_judgeOperands_46 : decode b_Val_judgeOperands 46 = .ok (.goto 143, 3) := by decide +kernel
theorem d_Val_judgeOperands_49 : decode b_Val_judgeOperands 49 = .ok (.iload_n 2, 1) := by decide +kernel
theorem d_Val_judgeOperands_50 : decode b_Val_judgeOperands 50 = .ok (.bipush 35, 2) := by decide +kernel
theorem d_Val_judgeOperands_52 : decode b_Val_judgeOperands 52 = .ok (.if_icmp .ne 19, 3) := by decide +kernel
theorem d_Val_judgeOperands_55 : decode b_Val_judgeOperands 55 = .ok (.aload_n 0, 1) := by decide +kernel
theorem d_Val_judgeOperands_56 : decode b_Val_judgeOperands 56 = .ok (.getfield 20, 3) := by decide +kernel
theorem d_Val_judgeOperands_59 : decode b_Val_judgeOperands 59 = .ok (.getfield 84, 3) := by decide +kernel
theorem d_Val_judgeOperands_62 : decode b_Val_judgeOperands 62 = .ok (.iload_n 3, 1) := by decide +kernel
theorem d_Val_judgeOperands_63 : decode b_Val_judgeOperands 63 = .ok (.invokevirtual 69, 3) := by decide +kernel
theorem d_Val_judgeOperands_66 : decode b_Val_judgeOperands 66 = .ok (.istore 4, 2) := by decide +kernel
theorem d_Val_judgeOperands_68 : decode b_Val_judgeOperands 68 = .ok (.goto 121, 3) := by decide +kernel
theorem d_Val_judgeOperands_71 : decode b_Val_judgeOperands 71 = .ok (.iload_n 2, 1) := by decide +kernel
theorem d_Val_judgeOperands_72 : decode b_Val_judgeOperands 72 = .ok (.bipush 36, 2) := by decide +kernel
theorem d_Val_judgeOperands_74 : decode b_Val_judgeOperands 74 = .ok (.if_icmp .ne 43, 3) := by decide +kernel
theorem d_Val_judgeOperands_77 : decode b_Val_judgeOperands 77 = .ok (.aload_n 0, 1) := by decide +kernel
theorem d_Val_judgeOperands_78 : decode b_Val_judgeOperands 78 = .ok (.getfield 20, 3) := by decide +kernel
theorem d_Val_judgeOperands_81 : decode b_Val_judgeOperands 81 = .ok (.getfield 84, 3) := by decide +kernel
theorem d_Val_judgeOperands_84 : decode b_Val_judgeOperands 84 = .ok (.iload_n 3, 1) := by decide +kernel
theorem d_Val_judgeOperands_85 : decode b_Val_judgeOperands 85 = .ok (.invokevirtual 69, 3) := by decide +kernel
theorem d_Val_judgeOperands_88 : decode b_Val_judgeOperands 88 = .ok (.ifCond .eq 23, 3) := by decide +kernel
theorem d_Val_judgeOperands_91 : decode b_Val_judgeOperands 91 = .ok (.aload_n 0, 1) := by decide +kernel
theorem d_Val_judgeOperands_92 : decode b_Val_judgeOperands 92 = .ok (.getfield 20, 3) := by decide +kernel
theorem d_Val_judgeOperands_95 : decode b_Val_judgeOperands 95 = .ok (.getfield 84, 3) := by decide +kernel
theorem d_Val_judgeOperands_98 : decode b_Val_judgeOperands 98 = .ok (.iload_n 3, 1) := by decide +kernel
theorem d_Val_judgeOperands_99 : decode b_Val_judgeOperands 99 = .ok (.iconst 0, 1) := by decide +kernel
theorem d_Val_judgeOperands_100 : decode b_Val_judgeOperands 100 = .ok (.invokevirtual 65, 3) := by decide +kernel
theorem d_Val_judgeOperands_103 : decode b_Val_judgeOperands 103 = .ok (.iconst 1, 1) := by decide +kernel
theorem d_Val_judgeOperands_104 : decode b_Val_judgeOperands 104 = .ok (.if_icmp .ne 7, 3) := by decide +kernel
theorem d_Val_judgeOperands_107 : decode b_Val_judgeOperands 107 = .ok (.iconst 1, 1) := by decide +kernel
theorem d_Val_judgeOperands_108 : decode b_Val_judgeOperands 108 = .ok (.goto 4, 3) := by decide +kernel
theorem d_Val_judgeOperands_111 : decode b_Val_judgeOperands 111 = .ok (.iconst 0, 1) := by decide +kernel
theorem d_Val_judgeOperands_112 : decode b_Val_judgeOperands 112 = .ok (.istore 4, 2) := by decide +kernel
theorem d_Val_judgeOperands_114 : decode b_Val_judgeOperands 114 = .ok (.goto 75, 3) := by decide +kernel
theorem d_Val_judgeOperands_117 : decode b_Val_judgeOperands 117 = .ok (.iload_n 2, 1) := by decide +kernel
theorem d_Val_judgeOperands_118 : decode b_Val_judgeOperands 118 = .ok (.invokestatic 178, 3) := by decide +kernel
theorem d_Val_judgeOperands_121 : decode b_Val_judgeOperands 121 = .ok (.ifCond .eq 47, 3) := by decide +kernel
theorem d_Val_judgeOperands_124 : decode b_Val_judgeOperands 124 = .ok (.aload_n 0, 1) := by decide +kernel
theorem d_Val_judgeOperands_125 : decode b_Val_judgeOperands 125 = .ok (.getfield 20, 3) := by decide +kernel
theorem d_Val_judgeOperands_128 : decode b_Val_judgeOperands 128 = .ok (.getfield 80, 3) := by decide +kernel
theorem d_Val_judgeOperands_131 : decode b_Val_judgeOperands 131 = .ok (.ifCond .eq 31, 3) := by decide +kernel
theorem d_Val_judgeOperands_134 : decode b_Val_judgeOperands 134 = .ok (.aload_n 0, 1) := by decide +kernel
theorem d_Val_judgeOperands_135 : decode b_Val_judgeOperands 135 = .ok (.getfield 20, 3) := by decide +kernel
theorem d_Val_judgeOperands_138 : decode b_Val_judgeOperands 138 = .ok (.getfield 112, 3) := by decide +kernel
theorem d_Val_judgeOperands_141 : decode b_Val_judgeOperands 141 = .ok (.iload_n 1, 1) := by decide +kernel
theorem d_Val_judgeOperands_142 : decode b_Val_judgeOperands 142 = .ok (.iconst 2, 1) := by decide +kernel
theorem d_Val_judgeOperands_143 : decode b_Val_judgeOperands 143 = .ok (.invokevirtual 65, 3) := by decide +kernel
theorem d_Val_judgeOperands_146 : decode b_Val_judgeOperands 146 = .ok (.iload_n 2, 1) := by decide +kernel
theorem d_Val_judgeOperands_147 : decode b_Val_judgeOperands 147 = .ok (.invokestatic 181, 3) := by decide +kernel
theorem d_Val_judgeOperands_150 : decode b_Val_judgeOperands 150 = .ok (.iconst 2, 1) := by decide +kernel
theorem d_Val_judgeOperands_151 : decode b_Val_judgeOperands 151 = .ok (.idiv, 1) := by decide +kernel
theorem d_Val_judgeOperands_152 : decode b_Val_judgeOperands 152 = .ok (.invokestatic 90, 3) := by decide +kernel
theorem d_Val_judgeOperands_155 : decode b_Val_judgeOperands 155 = .ok (.ifCond .ne 7, 3) := by decide +kernel
theorem d_Val_judgeOperands_158 : decode b_Val_judgeOperands 158 = .ok (.iconst 1, 1) := by decide +kernel
theorem d_Val_judgeOperands_159 : decode b_Val_judgeOperands 159 = .ok (.goto 4, 3) := by decide +kernel
theorem d_Val_judgeOperands_162 : decode b_Val_judgeOperands 162 = .ok (.iconst 0, 1) := by decide +kernel
theorem d_Val_judgeOperands_163 : decode b_Val_judgeOperands 163 = .ok (.istore 4, 2) := by decide +kernel
theorem d_Val_judgeOperands_165 : decode b_Val_judgeOperands 165 = .ok (.goto 24, 3) := by decide +kernel
theorem d_Val_judgeOperands_168 : decode b_Val_judgeOperands 168 = .ok (.iload_n 2, 1) := by decide +kernel
theorem d_Val_judgeOperands_169 : decode b_Val_judgeOperands 169 = .ok (.bipush 63, 2) := by decide +kernel
theorem d_Val_judgeOperands_171 : decode b_Val_judgeOperands 171 = .ok (.if_icmp .eq 9, 3) := by decide +kernel
theorem d_Val_judgeOperands_174 : decode b_Val_judgeOperands 174 = .ok (.iload_n 2, 1) := by decide +kernel
theorem d_Val_judgeOperands_175 : decode b_Val_judgeOperands 175 = .ok (.bipush 64, 2) := by decide +kernel
theorem d_Val_judgeOperands_177 : decode b_Val_judgeOperands 177 = .ok (.if_icmp .ne 12, 3) := by decide +kernel
theorem d_Val_judgeOperands_180 : decode b_Val_judgeOperands 180 = .ok (.aload_n 0, 1) := by decide +kernel
theorem d_Val_judgeOperands_181 : decode b_Val_judgeOperands 181 = .ok (.getfield 20, 3) := by decide +kernel
theorem d_Val_judgeOperands_184 : decode b_Val_judgeOperands 184 = .ok (.getfield 80, 3) := by decide +kernel
theorem d_Val_judgeOperands_187 : decode b_Val_judgeOperands 187 = .ok (.istore 4, 2) := by decide +kernel
theorem d_Val_judgeOperands_189 : decode b_Val_judgeOperands 189 = .ok (.iload 4, 2) := by decide +kernel
theorem d_Val_judgeOperands_191 : decode b_Val_judgeOperands 191 = .ok (.ifCond .ne 8, 3) := by decide +kernel
theorem d_Val_judgeOperands_194 : decode b_Val_judgeOperands 194 = .ok (.aload_n 0, 1) := by decide +kernel
theorem d_Val_judgeOperands_195 : decode b_Val_judgeOperands 195 = .ok (.iconst 3, 1) := by decide +kernel
theorem d_Val_judgeOperands_196 : decode b_Val_judgeOperands 196 = .ok (.invokevirtual 39, 3) := by decide +kernel
theorem d_Val_judgeOperands_199 : decode b_Val_judgeOperands 199 = .ok (.return_, 1) := by decide +kernel
theorem d_Val_takenBy_0 : decode b_Val_takenBy 0 = .ok (.aload_n 0, 1) := by decide +kernel
theorem d_Val_takenBy_1 : decode b_Val_takenBy 1 = .ok (.getfield 14, 3) := by decide +kernel
theorem d_Val_takenBy_4 : decode b_Val_takenBy 4 = .ok (.aload_n 0, 1) := by decide +kernel
theorem d_Val_takenBy_5 : decode b_Val_takenBy 5 = .ok (.getfield 99, 3) := by decide +kernel
theorem d_Val_takenBy_8 : decode b_Val_takenBy 8 = .ok (.iconst 1, 1) := by decide +kernel
theorem d_Val_takenBy_9 : decode b_Val_takenBy 9 = .ok (.isub, 1) := by decide +kernel
theorem d_Val_takenBy_10 : decode b_Val_takenBy 10 = .ok (.iload_n 1, 1) := by decide +kernel
theorem d_Val_takenBy_11 : decode b_Val_takenBy 11 = .ok (.isub, 1) := by decide +kernel
theorem d_Val_takenBy_12 : decode b_Val_takenBy 12 = .ok (.iconst 2, 1) := by decide +kernel
theorem d_Val_takenBy_13 : decode b_Val_takenBy 13 = .ok (.invokevirtual 65, 3) := by decide +kernel
theorem d_Val_takenBy_16 : decode b_Val_takenBy 16 = .ok (.ireturn, 1) := by decide +kernel
theorem d_Val_judgePlaces_0 : decode b_Val_judgePlaces 0 = .ok (.iconst 0, 1) := by decide +kernel
theorem d_Val_judgePlaces_1 : decode b_Val_judgePlaces 1 = .ok (.istore 4, 2) := by decide +kernel
theorem d_Val_judgePlaces_3 : decode b_Val_judgePlaces 3 = .ok (.iload 4, 2) := by decide +kernel
theorem d_Val_judgePlaces_5 : decode b_Val_judgePlaces 5 = .ok (.bipush 8, 2) := by decide +kernel
theorem d_Val_judgePlaces_7 : decode b_Val_judgePlaces 7 = .ok (.if_icmp .ge 56, 3) := by decide +kernel
theorem d_Val_judgePlaces_10 : decode b_Val_judgePlaces 10 = .ok (.iload 4, 2) := by decide +kernel
theorem d_Val_judgePlaces_12 : decode b_Val_judgePlaces 12 = .ok (.iload_n 2, 1) := by decide +kernel
theorem d_Val_judgePlaces_13 : decode b_Val_judgePlaces 13 = .ok (.if_icmp .ge 50, 3) := by decide +kernel
theorem d_Val_judgePlaces_16 : decode b_Val_judgePlaces 16 = .ok (.aload_n 0, 1) := by decide +kernel
theorem d_Val_judgePlaces_17 : decode b_Val_judgePlaces 17 = .ok (.getfield 20, 3) := by decide +kernel
theorem d_Val_judgePlaces_20 : decode b_Val_judgePlaces 20 = .ok (.iload_n 1, 1) := by decide +kernel
theorem d_Val_judgePlaces_21 : decode b_Val_judgePlaces 21 = .ok (.iload 4, 2) := by decide +kernel
theorem d_Val_judgePlaces_23 : decode b_Val_judgePlaces 23 = .ok (.invokevirtual 163, 3) := by decide +kernel
theorem d_Val_judgePlaces_26 : decode b_Val_judgePlaces 26 = .ok (.istore 5, 2) := by decide +kernel
theorem d_Val_judgePlaces_28 : decode b_Val_judgePlaces 28 = .ok (.iload 5, 2) := by decide +kernel
theorem d_Val_judgePlaces_30 : decode b_Val_judgePlaces 30 = .ok (.aload_n 0, 1) := by decide +kernel
theorem d_Val_judgePlaces_31 : decode b_Val_judgePlaces 31 = .ok (.getfield 99, 3) := by decide +kernel
theorem d_Val_judgePlaces_34 : decode b_Val_judgePlaces 34 = .ok (.iconst 1, 1) := by decide +kernel
theorem d_Val_judgePlaces_35 : decode b_Val_judgePlaces 35 = .ok (.isub, 1) := by decide +kernel
theorem d_Val_judgePlaces_36 : decode b_Val_judgePlaces 36 = .ok (.invokestatic 90, 3) := by decide +kernel
theorem d_Val_judgePlaces_39 : decode b_Val_judgePlaces 39 = .ok (.ifCond .ne 13, 3) := by decide +kernel
theorem d_Val_judgePlaces_42 : decode b_Val_judgePlaces 42 = .ok (.aload_n 0, 1) := by decide +kernel
theorem d_Val_judgePlaces_43 : decode b_Val_judgePlaces 43 = .ok (.iload 5, 2) := by decide +kernel
theorem d_Val_judgePlaces_45 : decode b_Val_judgePlaces 45 = .ok (.invokevirtual 166, 3) := by decide +kernel
theorem d_Val_judgePlaces_48 : decode b_Val_judgePlaces 48 = .ok (.iload_n 3, 1) := by decide +kernel
theorem d_Val_judgePlaces_49 : decode b_Val_judgePlaces 49 = .ok (.if_icmp .eq 8, 3) := by decide +kernel
theorem d_Val_judgePlaces_52 : decode b_Val_judgePlaces 52 = .ok (.aload_n 0, 1) := by decide +kernel
theorem d_Val_judgePlaces_53 : decode b_Val_judgePlaces 53 = .ok (.iconst 3, 1) := by decide +kernel
theorem d_Val_judgePlaces_54 : decode b_Val_judgePlaces 54 = .ok (.invokevirtual 39, 3) := by decide +kernel
theorem d_Val_judgePlaces_57 : decode b_Val_judgePlaces 57 = .ok (.iinc 4 1, 3) := by decide +kernel
theorem d_Val_judgePlaces_60 : decode b_Val_judgePlaces 60 = .ok (.goto (-57), 3) := by decide +kernel
theorem d_Val_judgePlaces_63 : decode b_Val_judgePlaces 63 = .ok (.return_, 1) := by decide +kernel
theorem d_Val_judgeBranch_0 : decode b_Val_judgeBranch 0 = .ok (.iload_n 2, 1) := by decide +kernel
theorem d_Val_judgeBranch_1 : decode b_Val_judgeBranch 1 = .ok (.bipush 14, 2) := by decide +kernel
theorem d_Val_judgeBranch_3 : decode b_Val_judgeBranch 3 = .ok (.if_icmp .ne 15, 3) := by decide +kernel
theorem d_Val_judgeBranch_6 : decode b_Val_judgeBranch 6 = .ok (.aload_n 0, 1) := by decide +kernel
theorem d_Val_judgeBranch_7 : decode b_Val_judgeBranch 7 = .ok (.getfield 20, 3) := by decide +kernel
theorem d_Val_judgeBranch_10 : decode b_Val_judgeBranch 10 = .ok (.iload_n 1, 1) := by decide +kernel
theorem d_Val_judgeBranch_11 : decode b_Val_judgeBranch 11 = .ok (.iload_n 3, 1) := by decide +kernel
theorem d_Val_judgeBranch_12 : decode b_Val_judgeBranch 12 = .ok (.invokevirtual 163, 3) := by decide +kernel
theorem d_Val_judgeBranch_15 : decode b_Val_judgeBranch 15 = .ok (.goto 4, 3) := by decide +kernel
theorem d_Val_judgeBranch_18 : decode b_Val_judgeBranch 18 = .ok (.iload_n 3, 1) := by decide +kernel
theorem d_Val_judgeBranch_19 : decode b_Val_judgeBranch 19 = .ok (.istore 4, 2) := by decide +kernel
theorem d_Val_judgeBranch_21 : decode b_Val_judgeBranch 21 = .ok (.iload 4, 2) := by decide +kernel
theorem d_Val_judgeBranch_23 : decode b_Val_judgeBranch 23 = .ok (.aload_n 0, 1) := by decide +kernel
theorem d_Val_judgeBranch_24 : decode b_Val_judgeBranch 24 = .ok (.getfield 99, 3) := by decide +kernel
theorem d_Val_judgeBranch_27 : decode b_Val_judgeBranch 27 = .ok (.iconst 1, 1) := by decide +kernel
theorem d_Val_judgeBranch_28 : decode b_Val_judgeBranch 28 = .ok (.isub, 1) := by decide +kernel
theorem d_Val_judgeBranch_29 : decode b_Val_judgeBranch 29 = .ok (.invokestatic 90, 3) := by decide +kernel
theorem d_Val_judgeBranch_32 : decode b_Val_judgeBranch 32 = .ok (.ifCond .eq 8, 3) := by decide +kernel
theorem d_Val_judgeBranch_35 : decode b_Val_judgeBranch 35 = .ok (.aload_n 0, 1) := by decide +kernel
theorem d_Val_judgeBranch_36 : decode b_Val_judgeBranch 36 = .ok (.iconst 3, 1) := by decide +kernel
theorem d_Val_judgeBranch_37 : decode b_Val_judgeBranch 37 = .ok (.invokevirtual 39, 3) := by decide +kernel
theorem d_Val_judgeBranch_40 : decode b_Val_judgeBranch 40 = .ok (.aload_n 0, 1) := by decide +kernel
theorem d_Val_judgeBranch_41 : decode b_Val_judgeBranch 41 = .ok (.iload 4, 2) := by decide +kernel
theorem d_Val_judgeBranch_43 : decode b_Val_judgeBranch 43 = .ok (.invokevirtual 166, 3) := by decide +kernel
theorem d_Val_judgeBranch_46 : decode b_Val_judgeBranch 46 = .ok (.istore 5, 2) := by decide +kernel
theorem d_Val_judgeBranch_48 : decode b_Val_judgeBranch 48 = .ok (.iload_n 2, 1) := by decide +kernel
theorem d_Val_judgeBranch_49 : decode b_Val_judgeBranch 49 = .ok (.bipush 14, 2) := by decide +kernel
theorem d_Val_judgeBranch_51 : decode b_Val_judgeBranch 51 = .ok (.if_icmp .ne 11, 3) := by decide +kernel
theorem d_Val_judgeBranch_54 : decode b_Val_judgeBranch 54 = .ok (.aload_n 0, 1) := by decide +kernel
theorem d_Val_judgeBranch_55 : decode b_Val_judgeBranch 55 = .ok (.iload_n 1, 1) := by decide +kernel
theorem d_Val_judgeBranch_56 : decode b_Val_judgeBranch 56 = .ok (.iload_n 3, 1) := by decide +kernel
theorem d_Val_judgeBranch_57 : decode b_Val_judgeBranch 57 = .ok (.iload 5, 2) := by decide +kernel
theorem d_Val_judgeBranch_59 : decode b_Val_judgeBranch 59 = .ok (.invokevirtual 169, 3) := by decide +kernel
theorem d_Val_judgeBranch_62 : decode b_Val_judgeBranch 62 = .ok (.aload_n 0, 1) := by decide +kernel
theorem d_Val_judgeBranch_63 : decode b_Val_judgeBranch 63 = .ok (.iload_n 2, 1) := by decide +kernel
theorem d_Val_judgeBranch_64 : decode b_Val_judgeBranch 64 = .ok (.bipush 12, 2) := by decide +kernel
theorem d_Val_judgeBranch_66 : decode b_Val_judgeBranch 66 = .ok (.if_icmp .ne 7, 3) := by decide +kernel
theorem d_Val_judgeBranch_69 : decode b_Val_judgeBranch 69 = .ok (.iconst 0, 1) := by decide +kernel
theorem d_Val_judgeBranch_70 : decode b_Val_judgeBranch 70 = .ok (.goto 4, 3) := by decide +kernel
theorem d_Val_judgeBranch_73 : decode b_Val_judgeBranch 73 = .ok (.iconst 1, 1) := by decide +kernel
theorem d_Val_judgeBranch_74 : decode b_Val_judgeBranch 74 = .ok (.invokevirtual 130, 3) := by decide +kernel
theorem d_Val_judgeBranch_77 : decode b_Val_judgeBranch 77 = .ok (.aload_n 0, 1) := by decide +kernel
theorem d_Val_judgeBranch_78 : decode b_Val_judgeBranch 78 = .ok (.iload 5, 2) := by decide +kernel
theorem d_Val_judgeBranch_80 : decode b_Val_judgeBranch 80 = .ok (.invokevirtual 130, 3) := by decide +kernel
theorem d_Val_judgeBranch_83 : decode b_Val_judgeBranch 83 = .ok (.iload_n 2, 1) := by decide +kernel
theorem d_Val_judgeBranch_84 : decode b_Val_judgeBranch 84 = .ok (.bipush 13, 2) := by decide +kernel
theorem d_Val_judgeBranch_86 : decode b_Val_judgeBranch 86 = .ok (.if_icmp .ne 12, 3) := by decide +kernel
theorem d_Val_judgeBranch_89 : decode b_Val_judgeBranch 89 = .ok (.aload_n 0, 1) := by decide +kernel
theorem d_Val_judgeBranch_90 : decode b_Val_judgeBranch 90 = .ok (.iload 5, 2) := by decide +kernel
theorem d_Val_judgeBranch_92 : decode b_Val_judgeBranch 92 = .ok (.invokevirtual 160, 3) := by decide +kernel
theorem d_Val_judgeBranch_95 : decode b_Val_judgeBranch 95 = .ok (.goto 7, 3) := by decide +kernel
theorem d_Val_judgeBranch_98 : decode b_Val_judgeBranch 98 = .ok (.aload_n 0, 1) := by decide +kernel
theorem d_Val_judgeBranch_99 : decode b_Val_judgeBranch 99 = .ok (.invokevirtual 172, 3) := by decide +kernel
theorem d_Val_judgeBranch_102 : decode b_Val_judgeBranch 102 = .ok (.return_, 1) := by decide +kernel
theorem d_Val_closeBlock_0 : decode b_Val_closeBlock 0 = .ok (.aload_n 0, 1) := by decide +kernel
theorem d_Val_closeBlock_1 : decode b_Val_closeBlock 1 = .ok (.iconst 1, 1) := by decide +kernel
theorem d_Val_closeBlock_2 : decode b_Val_closeBlock 2 = .ok (.invokevirtual 124, 3) := by decide +kernel
theorem d_Val_closeBlock_5 : decode b_Val_closeBlock 5 = .ok (.istore_n 2, 1) := by decide +kernel
theorem d_Val_closeBlock_6 : decode b_Val_closeBlock 6 = .ok (.iload_n 1, 1) := by decide +kernel
theorem d_Val_closeBlock_7 : decode b_Val_closeBlock 7 = .ok (.bipush 11, 2) := by decide +kernel
theorem d_Val_closeBlock_9 : decode b_Val_closeBlock 9 = .ok (.if_icmp .ne 21, 3) := by decide +kernel
theorem d_Val_closeBlock_12 : decode b_Val_closeBlock 12 = .ok (.aload_n 0, 1) := by decide +kernel
theorem d_Val_closeBlock_13 : decode b_Val_closeBlock 13 = .ok (.iconst 3, 1) := by decide +kernel
theorem d_Val_closeBlock_14 : decode b_Val_closeBlock 14 = .ok (.invokevirtual 124, 3) := by decide +kernel
theorem d_Val_closeBlock_17 : decode b_Val_closeBlock 17 = .ok (.iconst 4, 1) := by decide +kernel
theorem d_Val_closeBlock_18 : decode b_Val_closeBlock 18 = .ok (.if_icmp .ne 12, 3) := by decide +kernel
theorem d_Val_closeBlock_21 : decode b_Val_closeBlock 21 = .ok (.iload_n 2, 1) := by decide +kernel
theorem d_Val_closeBlock_22 : decode b_Val_closeBlock 22 = .ok (.ifCond .le 8, 3) := by decide +kernel
theorem d_Val_closeBlock_25 : decode b_Val_closeBlock 25 = .ok (.aload_n 0, 1) := by decide +kernel
theorem d_Val_closeBlock_26 : decode b_Val_closeBlock 26 = .ok (.iconst 3, 1) := by decide +kernel
theorem d_Val_closeBlock_27 : decode b_Val_closeBlock 27 = .ok (.invokevirtual 39, 3) := by decide +kernel
theorem d_Val_closeBlock_30 : decode b_Val_closeBlock 30 = .ok (.aload_n 0, 1) := by decide +kernel
theorem d_Val_closeBlock_31 : decode b_Val_closeBlock 31 = .ok (.iload_n 2, 1) := by decide +kernel
theorem d_Val_closeBlock_32 : decode b_Val_closeBlock 32 = .ok (.invokevirtual 130, 3) := by decide +kernel
theorem d_Val_closeBlock_35 : decode b_Val_closeBlock 35 = .ok (.aload_n 0, 1) := by decide +kernel
theorem d_Val_closeBlock_36 : decode b_Val_closeBlock 36 = .ok (.getfield 96, 3) := by decide +kernel
theorem d_Val_closeBlock_39 : decode b_Val_closeBlock 39 = .ok (.aload_n 0, 1) := by decide +kernel
theorem d_Val_closeBlock_40 : decode b_Val_closeBlock 40 = .ok (.iconst 0, 1) := by decide +kernel
theorem d_Val_closeBlock_41 : decode b_Val_closeBlock 41 = .ok (.invokevirtual 124, 3) := by decide +kernel
theorem d_Val_closeBlock_44 : decode b_Val_closeBlock 44 = .ok (.if_icmp .eq 8, 3) := by decide +kernel
theorem d_Val_closeBlock_47 : decode b_Val_closeBlock 47 = .ok (.aload_n 0, 1) := by decide +kernel
theorem d_Val_closeBlock_48 : decode b_Val_closeBlock 48 = .ok (.iconst 3, 1) := by decide +kernel
theorem d_Val_closeBlock_49 : decode b_Val_closeBlock 49 = .ok (.invokevirtual 39, 3) := by decide +kernel
theorem d_Val_closeBlock_52 : decode b_Val_closeBlock 52 = .ok (.iload_n 1, 1) := by decide +kernel
theorem d_Val_closeBlock_53 : decode b_Val_closeBlock 53 = .ok (.bipush 11, 2) := by decide +kernel
theorem d_Val_closeBlock_55 : decode b_Val_closeBlock 55 = .ok (.if_icmp .ne 21, 3) := by decide +kernel
theorem d_Val_closeBlock_58 : decode b_Val_closeBlock 58 = .ok (.aload_n 0, 1) := by decide +kernel
theorem d_Val_closeBlock_59 : decode b_Val_closeBlock 59 = .ok (.dup, 1) := by decide +kernel
theorem d_Val_closeBlock_60 : decode b_Val_closeBlock 60 = .ok (.getfield 99, 3) := by decide +kernel
theorem d_Val_closeBlock_63 : decode b_Val_closeBlock 63 = .ok (.iconst 1, 1) := by decide +kernel
theorem d_Val_closeBlock_64 : decode b_Val_closeBlock 64 = .ok (.isub, 1) := by decide +kernel
theorem d_Val_closeBlock_65 : decode b_Val_closeBlock 65 = .ok (.putfield 99, 3) := by decide +kernel
theorem d_Val_closeBlock_68 : decode b_Val_closeBlock 68 = .ok (.aload_n 0, 1) := by decide +kernel
theorem d_Val_closeBlock_69 : decode b_Val_closeBlock 69 = .ok (.iload_n 2, 1) := by decide +kernel
theorem d_Val_closeBlock_70 : decode b_Val_closeBlock 70 = .ok (.invokevirtual 160, 3) := by decide +kernel
theorem d_Val_closeBlock_73 : decode b_Val_closeBlock 73 = .ok (.goto 33, 3) := by decide +kernel
theorem d_Val_closeBlock_76 : decode b_Val_closeBlock 76 = .ok (.aload_n 0, 1) := by decide +kernel
theorem d_Val_closeBlock_77 : decode b_Val_closeBlock 77 = .ok (.getfield 14, 3) := by decide +kernel
theorem d_Val_closeBlock_80 : decode b_Val_closeBlock 80 = .ok (.aload_n 0, 1) := by decide +kernel
theorem d_Val_closeBlock_81 : decode b_Val_closeBlock 81 = .ok (.getfield 99, 3) := by decide +kernel
theorem d_Val_closeBlock_84 : decode b_Val_closeBlock 84 = .ok (.iconst 1, 1) := by decide +kernel
theorem d_Val_closeBlock_85 : decode b_Val_closeBlock 85 = .ok (.isub, 1) := by decide +kernel
theorem d_Val_closeBlock_86 : decode b_Val_closeBlock 86 = .ok (.iconst 3, 1) := by decide +kernel
theorem d_Val_closeBlock_87 : decode b_Val_closeBlock 87 = .ok (.iconst 5, 1) := by decide +kernel
theorem d_Val_closeBlock_88 : decode b_Val_closeBlock 88 = .ok (.invokevirtual 115, 3) := by decide +kernel
theorem d_Val_closeBlock_91 : decode b_Val_closeBlock 91 = .ok (.aload_n 0, 1) := by decide +kernel
theorem d_Val_closeBlock_92 : decode b_Val_closeBlock 92 = .ok (.getfield 14, 3) := by decide +kernel
theorem d_Val_closeBlock_95 : decode b_Val_closeBlock 95 = .ok (.aload_n 0, 1) := by decide +kernel
theorem d_Val_closeBlock_96 : decode b_Val_closeBlock 96 = .ok (.getfield 99, 3) := by decide +kernel
theorem d_Val_closeBlock_99 : decode b_Val_closeBlock 99 = .ok (.iconst 1, 1) := by decide +kernel
theorem d_Val_closeBlock_100 : decode b_Val_closeBlock 100 = .ok (.isub, 1) := by decide +kernel
theorem d_Val_closeBlock_101 : decode b_Val_closeBlock 101 = .ok (.iconst 4, 1) := by decide +kernel
theorem d_Val_closeBlock_102 : decode b_Val_closeBlock 102 = .ok (.iconst 0, 1) := by decide +kernel
theorem d_Val_closeBlock_103 : decode b_Val_closeBlock 103 = .ok (.invokevirtual 115, 3) := by decide +kernel
theorem d_Val_closeBlock_106 : decode b_Val_closeBlock 106 = .ok (.return_, 1) := by decide +kernel
theorem d_Val_judgeInstruction_0 : decode b_Val_judgeInstruction 0 = .ok (.iload_n 2, 1) := by decide +kernel
theorem d_Val_judgeInstruction_1 : decode b_Val_judgeInstruction 1 = .ok (.invokestatic 127, 3) := by decide +kernel
theorem d_Val_judgeInstruction_4 : decode b_Val_judgeInstruction 4 = .ok (.ifCond .eq 41, 3) := by decide +kernel
theorem d_Val_judgeInstruction_7 : decode b_Val_judgeInstruction 7 = .ok (.aload_n 0, 1) := by decide +kernel
theorem d_Val_judgeInstruction_8 : decode b_Val_judgeInstruction 8 = .ok (.iload_n 2, 1) := by decide +kernel
theorem d_Val_judgeInstruction_9 : decode b_Val_judgeInstruction 9 = .ok (.iconst 4, 1) := by decide +kernel
theorem d_Val_judgeInstruction_10 : decode b_Val_judgeInstruction 10 = .ok (.if_icmp .ne 7, 3) := by decide +kernel
theorem d_Val_judgeInstruction_13 : decode b_Val_judgeInstruction 13 = .ok (.iconst 1, 1) := by decide +kernel
theorem d_Val_judgeInstruction_14 : decode b_Val_judgeInstruction 14 = .ok (.goto 4, 3) := by decide +kernel
theorem d_Val_judgeInstruction_17 : decode b_Val_judgeInstruction 17 = .ok (.iconst 0, 1) := by decide +kernel
theorem d_Val_judgeInstruction_18 : decode b_Val_judgeInstruction 18 = .ok (.invokevirtual 130, 3) := by decide +kernel
theorem d_Val_judgeInstruction_21 : decode b_Val_judgeInstruction 21 = .ok (.aload_n 0, 1) := by decide +kernel
theorem d_Val_judgeInstruction_22 : decode b_Val_judgeInstruction 22 = .ok (.iload_n 2, 1) := by decide +kernel
theorem d_Val_judgeInstruction_23 : decode b_Val_judgeInstruction 23 = .ok (.aload_n 0, 1) := by decide +kernel
theorem d_Val_judgeInstruction_24 : decode b_Val_judgeInstruction 24 = .ok (.getfield 20, 3) := by decide +kernel
theorem d_Val_judgeInstruction_27 : decode b_Val_judgeInstruction 27 = .ok (.iload_n 1, 1) := by decide +kernel
theorem d_Val_judgeInstruction_28 : decode b_Val_judgeInstruction 28 = .ok (.invokevirtual 133, 3) := by decide +kernel
theorem d_Val_judgeInstruction_31 : decode b_Val_judgeInstruction 31 = .ok (.aload_n 0, 1) := by decide +kernel
theorem d_Val_judgeInstruction_32 : decode b_Val_judgeInstruction 32 = .ok (.getfield 20, 3) := by decide +kernel
theorem d_Val_judgeInstruction_35 : decode b_Val_judgeInstruction 35 = .ok (.iload_n 1, 1) := by decide +kernel
theorem d_Val_judgeInstruction_36 : decode b_Val_judgeInstruction 36 = .ok (.invokevirtual 136, 3) := by decide +kernel
theorem d_Val_judgeInstruction_39 : decode b_Val_judgeInstruction 39 = .ok (.invokevirtual 108, 3) := by decide +kernel
theorem d_Val_judgeInstruction_42 : decode b_Val_judgeInstruction 42 = .ok (.goto 89, 3) := by decide +kernel
theorem d_Val_judgeInstruction_45 : decode b_Val_judgeInstruction 45 = .ok (.iload_n 2, 1) := by decide +kernel
theorem d_Val_judgeInstruction_46 : decode b_Val_judgeInstruction 46 = .ok (.iconst 5, 1) := by decide +kernel
theorem d_Val_judgeInstruction_47 : decode b_Val_judgeInstruction 47 = .ok (.if_icmp .eq 9, 3) := by decide +kernel
theorem d_Val_judgeInstruction_50 : decode b_Val_judgeInstruction 50 = .ok (.iload_n 2, 1) := by decide +kernel
theorem d_Val_judgeInstruction_51 : decode b_Val_judgeInstruction 51 = .ok (.bipush 11, 2) := by decide +kernel
theorem d_Val_judgeInstruction_53 : decode b_Val_judgeInstruction 53 = .ok (.if_icmp .ne 11, 3) := by decide +kernel
theorem d_Val_judgeInstruction_56 : decode b_Val_judgeInstruction 56 = .ok (.aload_n 0, 1) := by decide +kernel
theorem d_Val_judgeInstruction_57 : decode b_Val_judgeInstruction 57 = .ok (.iload_n 2, 1) := by decide +kernel
theorem d_Val_judgeInstruction_58 : decode b_Val_judgeInstruction 58 = .ok (.invokevirtual 139, 3) := by decide +kernel
theorem d_Val_judgeInstruction_61 : decode b_Val_judgeInstruction 61 = .ok (.goto 70, 3) := by decide +kernel
theorem d_Val_judgeInstruction_64 : decode b_Val_judgeInstruction 64 = .ok (.iload_n 2, 1) := by decide +kernel
theorem d_Val_judgeInstruction_65 : decode b_Val_judgeInstruction 65 = .ok (.bipush 12, 2) := by decide +kernel
theorem d_Val_judgeInstruction_67 : decode b_Val_judgeInstruction 67 = .ok (.if_icmp .eq 15, 3) := by decide +kernel
theorem d_Val_judgeInstruction_70 : decode b_Val_judgeInstruction 70 = .ok (.iload_n 2, 1) := by decide +kernel
theorem d_Val_judgeInstruction_71 : decode b_Val_judgeInstruction 71 = .ok (.bipush 13, 2) := by decide +kernel
theorem d_Val_judgeInstruction_73 : decode b_Val_judgeInstruction 73 = .ok (.if_icmp .eq 9, 3) := by decide +kernel
theorem d_Val_judgeInstruction_76 : decode b_Val_judgeInstruction 76 = .ok (.iload_n 2, 1) := by decide +kernel
theorem d_Val_judgeInstruction_77 : decode b_Val_judgeInstruction 77 = .ok (.bipush 14, 2) := by decide +kernel
theorem d_Val_judgeInstruction_79 : decode b_Val_judgeInstruction 79 = .ok (.if_icmp .ne 13, 3) := by decide +kernel
theorem d_Val_judgeInstruction_82 : decode b_Val_judgeInstruction 82 = .ok (.aload_n 0, 1) := by decide +kernel
theorem d_Val_judgeInstruction_83 : decode b_Val_judgeInstruction 83 = .ok (.iload_n 1, 1) := by decide +kernel
theorem d_Val_judgeInstruction_84 : decode b_Val_judgeInstruction 84 = .ok (.iload_n 2, 1) := by decide +kernel
theorem d_Val_judgeInstruction_85 : decode b_Val_judgeInstruction 85 = .ok (.iload_n 3, 1) := by decide +kernel
theorem d_Val_judgeInstruction_86 : decode b_Val_judgeInstruction 86 = .ok (.invokevirtual 142, 3) := by decide +kernel
theorem d_Val_judgeInstruction_89 : decode b_Val_judgeInstruction 89 = .ok (.goto 42, 3) := by decide +kernel
theorem d_Val_judgeInstruction_92 : decode b_Val_judgeInstruction 92 = .ok (.iload_n 2, 1) := by decide +kernel
theorem d_Val_judgeInstruction_93 : decode b_Val_judgeInstruction 93 = .ok (.invokestatic 145, 3) := by decide +kernel
theorem d_Val_judgeInstruction_96 : decode b_Val_judgeInstruction 96 = .ok (.ifCond .eq 12, 3) := by decide +kernel
theorem d_Val_judgeInstruction_99 : decode b_Val_judgeInstruction 99 = .ok (.aload_n 0, 1) := by decide +kernel
theorem d_Val_judgeInstruction_100 : decode b_Val_judgeInstruction 100 = .ok (.iload_n 2, 1) := by decide +kernel
theorem d_Val_judgeInstruction_101 : decode b_Val_judgeInstruction 101 = .ok (.iload_n 3, 1) := by decide +kernel
theorem d_Val_judgeInstruction_102 : decode b_Val_judgeInstruction 102 = .ok (.invokevirtual 148, 3) := by decide +kernel
theorem d_Val_judgeInstruction_105 : decode b_Val_judgeInstruction 105 = .ok (.goto 26, 3) := by decide +kernel
theorem d_Val_judgeInstruction_108 : decode b_Val_judgeInstruction 108 = .ok (.aload_n 0, 1) := by decide +kernel
theorem d_Val_judgeInstruction_109 : decode b_Val_judgeInstruction 109 = .ok (.iload_n 1, 1) := by decide +kernel
theorem d_Val_judgeInstruction_110 : decode b_Val_judgeInstruction 110 = .ok (.iload_n 2, 1) := by decide +kernel
theorem d_Val_judgeInstruction_111 : decode b_Val_judgeInstruction 111 = .ok (.iload_n 3, 1) := by decide +kernel
theorem d_Val_judgeInstruction_112 : decode b_Val_judgeInstruction 112 = .ok (.invokevirtual 151, 3) := by decide +kernel
theorem d_Val_judgeInstruction_115 : decode b_Val_judgeInstruction 115 = .ok (.aload_n 0, 1) := by decide +kernel
theorem d_Val_judgeInstruction_116 : decode b_Val_judgeInstruction 116 = .ok (.iload_n 2, 1) := by decide +kernel
theorem d_Val_judgeInstruction_117 : decode b_Val_judgeInstruction 117 = .ok (.invokestatic 154, 3) := by decide +kernel
theorem d_Val_judgeInstruction_120 : decode b_Val_judgeInstruction 120 = .ok (.invokevirtual 130, 3) := by decide +kernel
theorem d_Val_judgeInstruction_123 : decode b_Val_judgeInstruction 123 = .ok (.aload_n 0, 1) := by decide +kernel
theorem d_Val_judgeInstruction_124 : decode b_Val_judgeInstruction 124 = .ok (.iload_n 2, 1) := by decide +kernel
theorem d_Val_judgeInstruction_125 : decode b_Val_judgeInstruction 125 = .ok (.invokestatic 157, 3) := by decide +kernel
theorem d_Val_judgeInstruction_128 : decode b_Val_judgeInstruction 128 = .ok (.invokevirtual 160, 3) := by decide +kernel
theorem d_Val_judgeInstruction_131 : decode b_Val_judgeInstruction 131 = .ok (.return_, 1) := by decide +kernel
theorem d_Val_judgeBody_0 : decode b_Val_judgeBody 0 = .ok (.aload_n 0, 1) := by decide +kernel
theorem d_Val_judgeBody_1 : decode b_Val_judgeBody 1 = .ok (.iload_n 1, 1) := by decide +kernel
theorem d_Val_judgeBody_2 : decode b_Val_judgeBody 2 = .ok (.putfield 93, 3) := by decide +kernel
theorem d_Val_judgeBody_5 : decode b_Val_judgeBody 5 = .ok (.aload_n 0, 1) := by decide +kernel
theorem d_Val_judgeBody_6 : decode b_Val_judgeBody 6 = .ok (.iconst 0, 1) := by decide +kernel
theorem d_Val_judgeBody_7 : decode b_Val_judgeBody 7 = .ok (.putfield 96, 3) := by decide +kernel
theorem d_Val_judgeBody_10 : decode b_Val_judgeBody 10 = .ok (.aload_n 0, 1) := by decide +kernel
theorem d_Val_judgeBody_11 : decode b_Val_judgeBody 11 = .ok (.iconst 0, 1) := by decide +kernel
theorem d_Val_judgeBody_12 : decode b_Val_judgeBody 12 = .ok (.putfield 99, 3) := by decide +kernel
theorem d_Val_judgeBody_15 : decode b_Val_judgeBody 15 = .ok (.aload_n 0, 1) := by decide +kernel
theorem d_Val_judgeBody_16 : decode b_Val_judgeBody 16 = .ok (.getfield 20, 3) := by decide +kernel
theorem d_Val_judgeBody_19 : decode b_Val_judgeBody 19 = .ok (.iload_n 1, 1) := by decide +kernel
theorem d_Val_judgeBody_20 : decode b_Val_judgeBody 20 = .ok (.invokevirtual 102, 3) := by decide +kernel
theorem d_Val_judgeBody_23 : decode b_Val_judgeBody 23 = .ok (.istore_n 2, 1) := by decide +kernel
theorem d_Val_judgeBody_24 : decode b_Val_judgeBody 24 = .ok (.aload_n 0, 1) := by decide +kernel
theorem d_Val_judgeBody_25 : decode b_Val_judgeBody 25 = .ok (.iconst 2, 1) := by decide +kernel
theorem d_Val_judgeBody_26 : decode b_Val_judgeBody 26 = .ok (.iload_n 2, 1) := by decide +kernel
theorem d_Val_judgeBody_27 : decode b_Val_judgeBody 27 = .ok (.iload_n 2, 1) := by decide +kernel
theorem d_Val_judgeBody_28 : decode b_Val_judgeBody 28 = .ok (.invokevirtual 108, 3) := by decide +kernel
theorem d_Val_judgeBody_31 : decode b_Val_judgeBody 31 = .ok (.aload_n 0, 1) := by decide +kernel
theorem d_Val_judgeBody_32 : decode b_Val_judgeBody 32 = .ok (.getfield 20, 3) := by decide +kernel
theorem d_Val_judgeBody_35 : decode b_Val_judgeBody 35 = .ok (.getfield 53, 3) := by decide +kernel
theorem d_Val_judgeBody_38 : decode b_Val_judgeBody 38 = .ok (.iload_n 1, 1) := by decide +kernel
theorem d_Val_judgeBody_39 : decode b_Val_judgeBody 39 = .ok (.iconst 3, 1) := by decide +kernel
theorem d_Val_judgeBody_40 : decode b_Val_judgeBody 40 = .ok (.invokevirtual 65, 3) := by decide +kernel
theorem d_Val_judgeBody_43 : decode b_Val_judgeBody 43 = .ok (.istore_n 3, 1) := by decide +kernel
theorem d_Val_judgeBody_44 : decode b_Val_judgeBody 44 = .ok (.aload_n 0, 1) := by decide +kernel
theorem d_Val_judgeBody_45 : decode b_Val_judgeBody 45 = .ok (.getfield 20, 3) := by decide +kernel
theorem d_Val_judgeBody_48 : decode b_Val_judgeBody 48 = .ok (.getfield 53, 3) := by decide +kernel
theorem d_Val_judgeBody_51 : decode b_Val_judgeBody 51 = .ok (.iload_n 1, 1) := by decide +kernel
theorem d_Val_judgeBody_52 : decode b_Val_judgeBody 52 = .ok (.iconst 2, 1) := by decide +kernel
theorem d_Val_judgeBody_53 : decode b_Val_judgeBody 53 = .ok (.invokevirtual 65, 3) := by decide +kernel
theorem d_Val_judgeBody_56 : decode b_Val_judgeBody 56 = .ok (.istore 4, 2) := by decide +kernel
theorem d_Val_judgeBody_58 : decode b_Val_judgeBody 58 = .ok (.iload 4, 2) := by decide +kernel
theorem d_Val_judgeBody_60 : decode b_Val_judgeBody 60 = .ok (.iload_n 3, 1) := by decide +kernel
theorem d_Val_judgeBody_61 : decode b_Val_judgeBody 61 = .ok (.if_icmp .gt 82, 3) := by decide +kernel
theorem d_Val_judgeBody_64 : decode b_Val_judgeBody 64 = .ok (.aload_n 0, 1) := by decide +kernel
theorem d_Val_judgeBody_65 : decode b_Val_judgeBody 65 = .ok (.getfield 24, 3) := by decide +kernel
theorem d_Val_judgeBody_68 : decode b_Val_judgeBody 68 = .ok (.ifCond .ne 75, 3) := by decide +kernel
theorem d_Val_judgeBody_71 : decode b_Val_judgeBody 71 = .ok (.aload_n 0, 1) := by decide +kernel
theorem d_Val_judgeBody_72 : decode b_Val_judgeBody 72 = .ok (.getfield 20, 3) := by decide +kernel
theorem d_Val_judgeBody_75 : decode b_Val_judgeBody 75 = .ok (.getfield 112, 3) := by decide +kernel
theorem d_Val_judgeBody_78 : decode b_Val_judgeBody 78 = .ok (.iload 4, 2) := by decide +kernel
theorem d_Val_judgeBody_80 : decode b_Val_judgeBody 80 = .ok (.iconst 4, 1) := by decide +kernel
theorem d_Val_judgeBody_81 : decode b_Val_judgeBody 81 = .ok (.aload_n 0, 1) := by decide +kernel
theorem d_Val_judgeBody_82 : decode b_Val_judgeBody 82 = .ok (.getfield 96, 3) := by decide +kernel
theorem d_Val_judgeBody_85 : decode b_Val_judgeBody 85 = .ok (.invokevirtual 115, 3) := by decide +kernel
theorem d_Val_judgeBody_88 : decode b_Val_judgeBody 88 = .ok (.aload_n 0, 1) := by decide +kernel
theorem d_Val_judgeBody_89 : decode b_Val_judgeBody 89 = .ok (.getfield 20, 3) := by decide +kernel
theorem d_Val_judgeBody_92 : decode b_Val_judgeBody 92 = .ok (.getfield 112, 3) := by decide +kernel
theorem d_Val_judgeBody_95 : decode b_Val_judgeBody 95 = .ok (.iload 4, 2) := by decide +kernel
theorem d_Val_judgeBody_97 : decode b_Val_judgeBody 97 = .ok (.iconst 5, 1) := by decide +kernel
theorem d_Val_judgeBody_98 : decode b_Val_judgeBody 98 = .ok (.aload_n 0, 1) := by decide +kernel
theorem d_Val_judgeBody_99 : decode b_Val_judgeBody 99 = .ok (.invokevirtual 118, 3) := by decide +kernel
theorem d_Val_judgeBody_102 : decode b_Val_judgeBody 102 = .ok (.invokevirtual 115, 3) := by decide +kernel
theorem d_Val_judgeBody_105 : decode b_Val_judgeBody 105 = .ok (.aload_n 0, 1) := by decide +kernel
theorem d_Val_judgeBody_106 : decode b_Val_judgeBody 106 = .ok (.iload 4, 2) := by decide +kernel
theorem d_Val_judgeBody_108 : decode b_Val_judgeBody 108 = .ok (.aload_n 0, 1) := by decide +kernel
theorem d_Val_judgeBody_109 : decode b_Val_judgeBody 109 = .ok (.getfield 20, 3) := by decide +kernel
theorem d_Val_judgeBody_112 : decode b_Val_judgeBody 112 = .ok (.getfield 112, 3) := by decide +kernel
theorem d_Val_judgeBody_115 : decode b_Val_judgeBody 115 = .ok (.iload 4, 2) := by decide +kernel
theorem d_Val_judgeBody_117 : decode b_Val_judgeBody 117 = .ok (.iconst 0, 1) := by decide +kernel
theorem d_Val_judgeBody_118 : decode b_Val_judgeBody 118 = .ok (.invokevirtual 65, 3) := by decide +kernel
theorem d_Val_judgeBody_121 : decode b_Val_judgeBody 121 = .ok (.aload_n 0, 1) := by decide +kernel
theorem d_Val_judgeBody_122 : decode b_Val_judgeBody 122 = .ok (.getfield 20, 3) := by decide +kernel
theorem d_Val_judgeBody_125 : decode b_Val_judgeBody 125 = .ok (.getfield 112, 3) := by decide +kernel
theorem d_Val_judgeBody_128 : decode b_Val_judgeBody 128 = .ok (.iload 4, 2) := by decide +kernel
theorem d_Val_judgeBody_130 : decode b_Val_judgeBody 130 = .ok (.iconst 1, 1) := by decide +kernel
theorem d_Val_judgeBody_131 : decode b_Val_judgeBody 131 = .ok (.invokevirtual 65, 3) := by decide +kernel
theorem d_Val_judgeBody_134 : decode b_Val_judgeBody 134 = .ok (.invokevirtual 121, 3) := by decide +kernel
theorem d_Val_judgeBody_137 : decode b_Val_judgeBody 137 = .ok (.iinc 4 1, 3) := by decide +kernel
theorem d_Val_judgeBody_140 : decode b_Val_judgeBody 140 = .ok (.goto (-82), 3) := by decide +kernel
theorem d_Val_judgeBody_143 : decode b_Val_judgeBody 143 = .ok (.return_, 1) := by decide +kernel
theorem d_Val_judgeData_0 : decode b_Val_judgeData 0 = .ok (.aload_n 0, 1) := by decide +kernel
theorem d_Val_judgeData_1 : decode b_Val_judgeData 1 = .ok (.getfield 20, 3) := by decide +kernel
theorem d_Val_judgeData_4 : decode b_Val_judgeData 4 = .ok (.getfield 87, 3) := by decide +kernel
theorem d_Val_judgeData_7 : decode b_Val_judgeData 7 = .ok (.invokevirtual 46, 3) := by decide +kernel
theorem d_Val_judgeData_10 : decode b_Val_judgeData 10 = .ok (.istore_n 1, 1) := by decide +kernel
theorem d_Val_judgeData_11 : decode b_Val_judgeData 11 = .ok (.iconst 0, 1) := by decide +kernel
theorem d_Val_judgeData_12 : decode b_Val_judgeData 12 = .ok (.istore_n 2, 1) := by decide +kernel
theorem d_Val_judgeData_13 : decode b_Val_judgeData 13 = .ok (.iload_n 2, 1) := by decide +kernel
theorem d_Val_judgeData_14 : decode b_Val_judgeData 14 = .ok (.iconst 4, 1) := by decide +kernel
theorem d_Val_judgeData_15 : decode b_Val_judgeData 15 = .ok (.if_icmp .ge 44, 3) := by decide +kernel
theorem d_Val_judgeData_18 : decode b_Val_judgeData 18 = .ok (.iload_n 2, 1) := by decide +kernel
theorem d_Val_judgeData_19 : decode b_Val_judgeData 19 = .ok (.iload_n 1, 1) := by decide +kernel
theorem d_Val_judgeData_20 : decode b_Val_judgeData 20 = .ok (.if_icmp .ge 39, 3) := by decide +kernel
theorem d_Val_judgeData_23 : decode b_Val_judgeData 23 = .ok (.aload_n 0, 1) := by decide +kernel
theorem d_Val_judgeData_24 : decode b_Val_judgeData 24 = .ok (.getfield 20, 3) := by decide +kernel
theorem d_Val_judgeData_27 : decode b_Val_judgeData 27 = .ok (.getfield 80, 3) := by decide +kernel
theorem d_Val_judgeData_30 : decode b_Val_judgeData 30 = .ok (.ifCond .eq 18, 3) := by decide +kernel
theorem d_Val_judgeData_33 : decode b_Val_judgeData 33 = .ok (.aload_n 0, 1) := by decide +kernel
theorem d_Val_judgeData_34 : decode b_Val_judgeData 34 = .ok (.getfield 20, 3) := by decide +kernel
theorem d_Val_judgeData_37 : decode b_Val_judgeData 37 = .ok (.getfield 87, 3) := by decide +kernel
theorem d_Val_judgeData_40 : decode b_Val_judgeData 40 = .ok (.iload_n 2, 1) := by decide +kernel
theorem d_Val_judgeData_41 : decode b_Val_judgeData 41 = .ok (.iconst 0, 1) := by decide +kernel
theorem d_Val_judgeData_42 : decode b_Val_judgeData 42 = .ok (.invokevirtual 65, 3) := by decide +kernel
theorem d_Val_judgeData_45 : decode b_Val_judgeData 45 = .ok (.ifCond .eq 8, 3) := by decide +kernel
theorem d_Val_judgeData_48 : decode b_Val_judgeData 48 = .ok (.aload_n 0, 1) := by decide +kernel
theorem d_Val_judgeData_49 : decode b_Val_judgeData 49 = .ok (.iconst 3, 1) := by decide +kernel
theorem d_Val_judgeData_50 : decode b_Val_judgeData 50 = .ok (.invokevirtual 39, 3) := by decide +kernel
theorem d_Val_judgeData_53 : decode b_Val_judgeData 53 = .ok (.iinc 2 1, 3) := by decide +kernel
theorem d_Val_judgeData_56 : decode b_Val_judgeData 56 = .ok (.goto (-43), 3) := by decide +kernel
theorem d_Val_judgeData_59 : decode b_Val_judgeData 59 = .ok (.iconst 0, 1) := by decide +kernel
theorem d_Val_judgeData_60 : decode b_Val_judgeData 60 = .ok (.istore_n 2, 1) := by decide +kernel
theorem d_Val_judgeData_61 : decode b_Val_judgeData 61 = .ok (.iload_n 2, 1) := by decide +kernel
theorem d_Val_judgeData_62 : decode b_Val_judgeData 62 = .ok (.iconst 4, 1) := by decide +kernel
theorem d_Val_judgeData_63 : decode b_Val_judgeData 63 = .ok (.if_icmp .ge 60, 3) := by decide +kernel
theorem d_Val_judgeData_66 : decode b_Val_judgeData 66 = .ok (.iload_n 2, 1) := by decide +kernel
theorem d_Val_judgeData_67 : decode b_Val_judgeData 67 = .ok (.iload_n 1, 1) := by decide +kernel
theorem d_Val_judgeData_68 : decode b_Val_judgeData 68 = .ok (.if_icmp .ge 55, 3) := by decide +kernel
theorem d_Val_judgeData_71 : decode b_Val_judgeData 71 = .ok (.aload_n 0, 1) := by decide +kernel
theorem d_Val_judgeData_72 : decode b_Val_judgeData 72 = .ok (.getfield 20, 3) := by decide +kernel
theorem d_Val_judgeData_75 : decode b_Val_judgeData 75 = .ok (.getfield 87, 3) := by decide +kernel
theorem d_Val_judgeData_78 : decode b_Val_judgeData 78 = .ok (.iload_n 2, 1) := by decide +kernel
theorem d_Val_judgeData_79 : decode b_Val_judgeData 79 = .ok (.iconst 1, 1) := by decide +kernel
theorem d_Val_judgeData_80 : decode b_Val_judgeData 80 = .ok (.invokevirtual 65, 3) := by decide +kernel
theorem d_Val_judgeData_83 : decode b_Val_judgeData 83 = .ok (.aload_n 0, 1) := by decide +kernel
theorem d_Val_judgeData_84 : decode b_Val_judgeData 84 = .ok (.getfield 20, 3) := by decide +kernel
theorem d_Val_judgeData_87 : decode b_Val_judgeData 87 = .ok (.getfield 36, 3) := by decide +kernel
theorem d_Val_judgeData_90 : decode b_Val_judgeData 90 = .ok (.bipush 64, 2) := by decide +kernel
theorem d_Val_judgeData_92 : decode b_Val_judgeData 92 = .ok (.imul, 1) := by decide +kernel
theorem d_Val_judgeData_93 : decode b_Val_judgeData 93 = .ok (.aload_n 0, 1) := by decide +kernel
theorem d_Val_judgeData_94 : decode b_Val_judgeData 94 = .ok (.getfield 20, 3) := by decide +kernel
theorem d_Val_judgeData_97 : decode b_Val_judgeData 97 = .ok (.getfield 87, 3) := by decide +kernel
theorem d_Val_judgeData_100 : decode b_Val_judgeData 100 = .ok (.iload_n 2, 1) := by decide +kernel
theorem d_Val_judgeData_101 : decode b_Val_judgeData 101 = .ok (.iconst 3, 1) := by decide +kernel
theorem d_Val_judgeData_102 : decode b_Val_judgeData 102 = .ok (.invokevirtual 65, 3) := by decide +kernel
theorem d_Val_judgeData_105 : decode b_Val_judgeData 105 = .ok (.isub, 1) := by decide +kernel
theorem d_Val_judgeData_106 : decode b_Val_judgeData 106 = .ok (.invokestatic 90, 3) := by decide +kernel
theorem d_Val_judgeData_109 : decode b_Val_judgeData 109 = .ok (.ifCond .eq 8, 3) := by decide +kernel
theorem d_Val_judgeData_112 : decode b_Val_judgeData 112 = .ok (.aload_n 0, 1) := by decide +kernel
theorem d_Val_judgeData_113 : decode b_Val_judgeData 113 = .ok (.iconst 4, 1) := by decide +kernel
theorem d_Val_judgeData_114 : decode b_Val_judgeData 114 = .ok (.invokevirtual 39, 3) := by decide +kernel
theorem d_Val_judgeData_117 : decode b_Val_judgeData 117 = .ok (.iinc 2 1, 3) := by decide +kernel
theorem d_Val_judgeData_120 : decode b_Val_judgeData 120 = .ok (.goto (-59), 3) := by decide +kernel
theorem d_Val_judgeData_123 : decode b_Val_judgeData 123 = .ok (.return_, 1) := by decide +kernel
theorem d_Val_judge_0 : decode b_Val_judge 0 = .ok (.aload_n 0, 1) := by decide +kernel
theorem d_Val_judge_1 : decode b_Val_judge 1 = .ok (.iconst 0, 1) := by decide +kernel
theorem d_Val_judge_2 : decode b_Val_judge 2 = .ok (.putfield 24, 3) := by decide +kernel
theorem d_Val_judge_5 : decode b_Val_judge 5 = .ok (.aload_n 0, 1) := by decide +kernel
theorem d_Val_judge_6 : decode b_Val_judge 6 = .ok (.invokevirtual 28, 3) := by decide +kernel
theorem d_Val_judge_9 : decode b_Val_judge 9 = .ok (.aload_n 0, 1) := by decide +kernel
theorem d_Val_judge_10 : decode b_Val_judge 10 = .ok (.getfield 20, 3) := by decide +kernel
theorem d_Val_judge_13 : decode b_Val_judge 13 = .ok (.getfield 31, 3) := by decide +kernel
theorem d_Val_judge_16 : decode b_Val_judge 16 = .ok (.aload_n 0, 1) := by decide +kernel
theorem d_Val_judge_17 : decode b_Val_judge 17 = .ok (.getfield 20, 3) := by decide +kernel
theorem d_Val_judge_20 : decode b_Val_judge 20 = .ok (.getfield 36, 3) := by decide +kernel
theorem d_Val_judge_23 : decode b_Val_judge 23 = .ok (.if_icmp .ge 8, 3) := by decide +kernel
theorem d_Val_judge_26 : decode b_Val_judge 26 = .ok (.aload_n 0, 1) := by decide +kernel
theorem d_Val_judge_27 : decode b_Val_judge 27 = .ok (.iconst 3, 1) := by decide +kernel
theorem d_Val_judge_28 : decode b_Val_judge 28 = .ok (.invokevirtual 39, 3) := by decide +kernel
theorem d_Val_judge_31 : decode b_Val_judge 31 = .ok (.iconst 0, 1) := by decide +kernel
theorem d_Val_judge_32 : decode b_Val_judge 32 = .ok (.istore_n 1, 1) := by decide +kernel
theorem d_Val_judge_33 : decode b_Val_judge 33 = .ok (.iload_n 1, 1) := by decide +kernel
theorem d_Val_judge_34 : decode b_Val_judge 34 = .ok (.bipush 8, 2) := by decide +kernel
theorem d_Val_judge_36 : decode b_Val_judge 36 = .ok (.if_icmp .ge 28, 3) := by decide +kernel
theorem d_Val_judge_39 : decode b_Val_judge 39 = .ok (.iload_n 1, 1) := by decide +kernel
theorem d_Val_judge_40 : decode b_Val_judge 40 = .ok (.aload_n 0, 1) := by decide +kernel
theorem d_Val_judge_41 : decode b_Val_judge 41 = .ok (.getfield 20, 3) := by decide +kernel
theorem d_Val_judge_44 : decode b_Val_judge 44 = .ok (.getfield 43, 3) := by decide +kernel
theorem d_Val_judge_47 : decode b_Val_judge 47 = .ok (.invokevirtual 46, 3) := by decide +kernel
theorem d_Val_judge_50 : decode b_Val_judge 50 = .ok (.if_icmp .ge 14, 3) := by decide +kernel
theorem d_Val_judge_53 : decode b_Val_judge 53 = .ok (.aload_n 0, 1) := by decide +kernel
theorem d_Val_judge_54 : decode b_Val_judge 54 = .ok (.iload_n 1, 1) := by decide +kernel
theorem d_Val_judge_55 : decode b_Val_judge 55 = .ok (.invokevirtual 50, 3) := by decide +kernel
theorem d_Val_judge_58 : decode b_Val_judge 58 = .ok (.iinc 1 1, 3) := by decide +kernel
theorem d_Val_judge_61 : decode b_Val_judge 61 = .ok (.goto (-28), 3) := by decide +kernel
theorem d_Val_judge_64 : decode b_Val_judge 64 = .ok (.iconst 0, 1) := by decide +kernel
theorem d_Val_judge_65 : decode b_Val_judge 65 = .ok (.istore_n 1, 1) := by decide +kernel
theorem d_Val_judge_66 : decode b_Val_judge 66 = .ok (.iload_n 1, 1) := by decide +kernel
theorem d_Val_judge_67 : decode b_Val_judge 67 = .ok (.bipush 8, 2) := by decide +kernel
theorem d_Val_judge_69 : decode b_Val_judge 69 = .ok (.if_icmp .ge 35, 3) := by decide +kernel
theorem d_Val_judge_72 : decode b_Val_judge 72 = .ok (.iload_n 1, 1) := by decide +kernel
theorem d_Val_judge_73 : decode b_Val_judge 73 = .ok (.aload_n 0, 1) := by decide +kernel
theorem d_Val_judge_74 : decode b_Val_judge 74 = .ok (.getfield 20, 3) := by decide +kernel
theorem d_Val_judge_77 : decode b_Val_judge 77 = .ok (.getfield 53, 3) := by decide +kernel
theorem d_Val_judge_80 : decode b_Val_judge 80 = .ok (.invokevirtual 46, 3) := by decide +kernel
theorem d_Val_judge_83 : decode b_Val_judge 83 = .ok (.if_icmp .ge 21, 3) := by decide +kernel
theorem d_Val_judge_86 : decode b_Val_judge 86 = .ok (.aload_n 0, 1) := by decide +kernel
theorem d_Val_judge_87 : decode b_Val_judge 87 = .ok (.getfield 24, 3) := by decide +kernel
theorem d_Val_judge_90 : decode b_Val_judge 90 = .ok (.ifCond .ne 14, 3) := by decide +kernel
theorem d_Val_judge_93 : decode b_Val_judge 93 = .ok (.aload_n 0, 1) := by decide +kernel
theorem d_Val_judge_94 : decode b_Val_judge 94 = .ok (.iload_n 1, 1) := by decide +kernel
theorem d_Val_judge_95 : decode b_Val_judge 95 = .ok (.invokevirtual 56, 3) := by decide +kernel
theorem d_Val_judge_98 : decode b_Val_judge 98 = .ok (.iinc 1 1, 3) := by decide +kernel
theorem d_Val_judge_101 : decode b_Val_judge 101 = .ok (.goto (-35), 3) := by decide +kernel
theorem d_Val_judge_104 : decode b_Val_judge 104 = .ok (.aload_n 0, 1) := by decide +kernel
theorem d_Val_judge_105 : decode b_Val_judge 105 = .ok (.invokevirtual 59, 3) := by decide +kernel
theorem d_Val_judge_108 : decode b_Val_judge 108 = .ok (.aload_n 0, 1) := by decide +kernel
theorem d_Val_judge_109 : decode b_Val_judge 109 = .ok (.getfield 24, 3) := by decide +kernel
theorem d_Val_judge_112 : decode b_Val_judge 112 = .ok (.ireturn, 1) := by decide +kernel
theorem d_RC_length_0 : decode b_RC_length 0 = .ok (.aload_n 0, 1) := by decide +kernel
theorem d_RC_length_1 : decode b_RC_length 1 = .ok (.getfield 27, 3) := by decide +kernel
theorem d_RC_length_4 : decode b_RC_length 4 = .ok (.iconst 4, 1) := by decide +kernel
theorem d_RC_length_5 : decode b_RC_length 5 = .ok (.imul, 1) := by decide +kernel
theorem d_RC_length_6 : decode b_RC_length 6 = .ok (.ireturn, 1) := by decide +kernel
theorem d_RC_word_0 : decode b_RC_word 0 = .ok (.aload_n 0, 1) := by decide +kernel
theorem d_RC_word_1 : decode b_RC_word 1 = .ok (.getfield 16, 3) := by decide +kernel
theorem d_RC_word_4 : decode b_RC_word 4 = .ok (.iload_n 1, 1) := by decide +kernel
theorem d_RC_word_5 : decode b_RC_word 5 = .ok (.iconst 4, 1) := by decide +kernel
theorem d_RC_word_6 : decode b_RC_word 6 = .ok (.imul, 1) := by decide +kernel
theorem d_RC_word_7 : decode b_RC_word 7 = .ok (.iload_n 2, 1) := by decide +kernel
theorem d_RC_word_8 : decode b_RC_word 8 = .ok (.iadd, 1) := by decide +kernel
theorem d_RC_word_9 : decode b_RC_word 9 = .ok (.invokevirtual 31, 3) := by decide +kernel
theorem d_RC_word_12 : decode b_RC_word 12 = .ok (.ireturn, 1) := by decide +kernel
theorem d_RC_firstEntry_0 : decode b_RC_firstEntry 0 = .ok (.aload_n 0, 1) := by decide +kernel
theorem d_RC_firstEntry_1 : decode b_RC_firstEntry 1 = .ok (.getfield 23, 3) := by decide +kernel
theorem d_RC_firstEntry_4 : decode b_RC_firstEntry 4 = .ok (.getfield 35, 3) := by decide +kernel
theorem d_RC_firstEntry_7 : decode b_RC_firstEntry 7 = .ok (.aload_n 0, 1) := by decide +kernel
theorem d_RC_firstEntry_8 : decode b_RC_firstEntry 8 = .ok (.getfield 23, 3) := by decide +kernel
theorem d_RC_firstEntry_11 : decode b_RC_firstEntry 11 = .ok (.getfield 41, 3) := by decide +kernel
theorem d_RC_firstEntry_14 : decode b_RC_firstEntry 14 = .ok (.iload_n 1, 1) := by decide +kernel
theorem d_RC_firstEntry_15 : decode b_RC_firstEntry 15 = .ok (.iconst 2, 1) := by decide +kernel
theorem d_RC_firstEntry_16 : decode b_RC_firstEntry 16 = .ok (.invokevirtual 44, 3) := by decide +kernel
theorem d_RC_firstEntry_19 : decode b_RC_firstEntry 19 = .ok (.bipush 6, 2) := by decide +kernel
theorem d_RC_firstEntry_21 : decode b_RC_firstEntry 21 = .ok (.invokevirtual 44, 3) := by decide +kernel
theorem d_RC_firstEntry_24 : decode b_RC_firstEntry 24 = .ok (.ireturn, 1) := by decide +kernel
theorem d_RC_entriesOf_0 : decode b_RC_entriesOf 0 = .ok (.aload_n 0, 1) := by decide +kernel
theorem d_RC_entriesOf_1 : decode b_RC_entriesOf 1 = .ok (.getfield 23, 3) := by decide +kernel
theorem d_RC_entriesOf_4 : decode b_RC_entriesOf 4 = .ok (.getfield 35, 3) := by decide +kernel
theorem d_RC_entriesOf_7 : decode b_RC_entriesOf 7 = .ok (.iload_n 1, 1) := by decide +kernel
theorem d_RC_entriesOf_8 : decode b_RC_entriesOf 8 = .ok (.iconst 0, 1) := by decide +kernel
theorem d_RC_entriesOf_9 : decode b_RC_entriesOf 9 = .ok (.invokevirtual 44, 3) := by decide +kernel
theorem d_RC_entriesOf_12 : decode b_RC_entriesOf 12 = .ok (.istore_n 3, 1) := by decide +kernel
theorem d_RC_entriesOf_13 : decode b_RC_entriesOf 13 = .ok (.iload_n 1, 1) := by decide +kernel
theorem d_RC_entriesOf_14 : decode b_RC_entriesOf 14 = .ok (.iload_n 2, 1) := by decide +kernel
theorem d_RC_entriesOf_15 : decode b_RC_entriesOf 15 = .ok (.if_icmp .ne 5, 3) := by decide +kernel
theorem d_RC_entriesOf_18 : decode b_RC_entriesOf 18 = .ok (.iconst 1, 1) := by decide +kernel
theorem d_RC_entriesOf_19 : decode b_RC_entriesOf 19 = .ok (.ireturn, 1) := by decide +kernel
theorem d_RC_entriesOf_20 : decode b_RC_entriesOf 20 = .ok (.iload_n 3, 1) := by decide +kernel
theorem d_RC_entriesOf_21 : decode b_RC_entriesOf 21 = .ok (.bipush 11, 2) := by decide +kernel
theorem d_RC_entriesOf_23 : decode b_RC_entriesOf 23 = .ok (.if_icmp .eq 18, 3) := by decide +kernel
theorem d_RC_entriesOf_26 : decode b_RC_entriesOf 26 = .ok (.aload_n 0, 1) := by decide +kernel
theorem d_RC_entriesOf_27 : decode b_RC_entriesOf 27 = .ok (.getfield 23, 3) := by decide +kernel
theorem d_RC_entriesOf_30 : decode b_RC_entriesOf 30 = .ok (.getfield 35, 3) := by decide +kernel
theorem d_RC_entriesOf_33 : decode b_RC_entriesOf 33 = .ok (.iload_n 1, 1) := by decide +kernel
theorem d_RC_entriesOf_34 : decode b_RC_entriesOf 34 = .ok (.iconst 5, 1) := by decide +kernel
theorem d_RC_entriesOf_35 : decode b_RC_entriesOf 35 = .ok (.invokevirtual 44, 3) := by decide +kernel
theorem d_RC_entriesOf_38 : decode b_RC_entriesOf 38 = .ok (.ifCond .ne 5, 3) := by decide +kernel
theorem d_RC_entriesOf_41 : decode b_RC_entriesOf 41 = .ok (.iconst 0, 1) := by decide +kernel
theorem d_RC_entriesOf_42 : decode b_RC_entriesOf 42 = .ok (.ireturn, 1) := by decide +kernel
theorem d_RC_entriesOf_43 : decode b_RC_entriesOf 43 = .ok (.iload_n 3, 1) := by decide +kernel
theorem d_RC_entriesOf_44 : decode b_RC_entriesOf 44 = .ok (.bipush 14, 2) := by decide +kernel
theorem d_RC_entriesOf_46 : decode b_RC_entriesOf 46 = .ok (.if_icmp .ne 20, 3) := by decide +kernel
theorem d_RC_entriesOf_49 : decode b_RC_entriesOf 49 = .ok (.aload_n 0, 1) := by decide +kernel
theorem d_RC_entriesOf_50 : decode b_RC_entriesOf 50 = .ok (.getfield 23, 3) := by decide +kernel
theorem d_RC_entriesOf_53 : decode b_RC_entriesOf 53 = .ok (.getfield 35, 3) := by decide +kernel
theorem d_RC_entriesOf_56 : decode b_RC_entriesOf 56 = .ok (.iload_n 1, 1) := by decide +kernel
theorem d_RC_entriesOf_57 : decode b_RC_entriesOf 57 = .ok (.iconst 1, 1) := by decide +kernel
theorem d_RC_entriesOf_58 : decode b_RC_entriesOf 58 = .ok (.invokevirtual 44, 3) := by decide +kernel
theorem d_RC_entriesOf_61 : decode b_RC_entriesOf 61 = .ok (.iconst 2, 1) := by decide +kernel
theorem d_RC_entriesOf_62 : decode b_RC_entriesOf 62 = .ok (.iadd, 1) := by decide +kernel
theorem d_RC_entriesOf_63 : decode b_RC_entriesOf 63 = .ok (.goto 4, 3) := by decide +kernel
theorem d_RC_entriesOf_66 : decode b_RC_entriesOf 66 = .ok (.iconst 1, 1) := by decide +kernel
theorem d_RC_entriesOf_67 : decode b_RC_entriesOf 67 = .ok (.ireturn, 1) := by decide +kernel
theorem d_RC_numberEntries_0 : decode b_RC_numberEntries 0 = .ok (.iconst 0, 1) := by decide +kernel
theorem d_RC_numberEntries_1 : decode b_RC_numberEntries 1 = .ok (.istore_n 1, 1) := by decide +kernel
theorem d_RC_numberEntries_2 : decode b_RC_numberEntries 2 = .ok (.iconst 0, 1) := by decide +kernel
theorem d_RC_numberEntries_3 : decode b_RC_numberEntries 3 = .ok (.istore_n 2, 1) := by decide +kernel
theorem d_RC_numberEntries_4 : decode b_RC_numberEntries 4 = .ok (.iload_n 2, 1) := by decide +kernel
theorem d_RC_numberEntries_5 : decode b_RC_numberEntries 5 = .ok (.bipush 8, 2) := by decide +kernel
theorem d_RC_numberEntries_7 : decode b_RC_numberEntries 7 = .ok (.if_icmp .ge 87, 3) := by decide +kernel
theorem d_RC_numberEntries_10 : decode b_RC_numberEntries 10 = .ok (.iload_n 2, 1) := by decide +kernel
theorem d_RC_numberEntries_11 : decode b_RC_numberEntries 11 = .ok (.aload_n 0, 1) := by decide +kernel
theorem d_RC_numberEntries_12 : decode b_RC_numberEntries 12 = .ok (.getfield 23, 3) := by decide +kernel
theorem d_RC_numberEntries_15 : decode b_RC_numberEntries 15 = .ok (.getfield 41, 3) := by decide +kernel
theorem d_RC_numberEntries_18 : decode b_RC_numberEntries 18 = .ok (.invokevirtual 52, 3) := by decide +kernel
theorem d_RC_numberEntries_21 : decode b_RC_numberEntries 21 = .ok (.if_icmp .ge 73, 3) := by decide +kernel
theorem d_RC_numberEntries_24 : decode b_RC_numberEntries 24 = .ok (.aload_n 0, 1) := by decide +kernel
theorem d_RC_numberEntries_25 : decode b_RC_numberEntries 25 = .ok (.getfield 23, 3) := by decide +kernel
theorem d_RC_numberEntries_28 : decode b_RC_numberEntries 28 = .ok (.getfield 41, 3) := by decide +kernel
theorem d_RC_numberEntries_31 : decode b_RC_numberEntries 31 = .ok (.iload_n 2, 1) := by decide +kernel
theorem d_RC_numberEntries_32 : decode b_RC_numberEntries 32 = .ok (.iconst 3, 1) := by decide +kernel
theorem d_RC_numberEntries_33 : decode b_RC_numberEntries 33 = .ok (.invokevirtual 44, 3) := by decide +kernel
theorem d_RC_numberEntries_36 : decode b_RC_numberEntries 36 = .ok (.istore_n 3, 1) := by decide +kernel
theorem d_RC_numberEntries_37 : decode b_RC_numberEntries 37 = .ok (.aload_n 0, 1) := by decide +kernel
theorem d_RC_numberEntries_38 : decode b_RC_numberEntries 38 = .ok (.getfield 23, 3) := by decide +kernel
theorem d_RC_numberEntries_41 : decode b_RC_numberEntries 41 = .ok (.getfield 41, 3) := by decide +kernel
theorem d_RC_numberEntries_44 : decode b_RC_numberEntries 44 = .ok (.iload_n 2, 1) := by decide +kernel
theorem d_RC_numberEntries_45 : decode b_RC_numberEntries 45 = .ok (.iconst 2, 1) := by decide +kernel
theorem d_RC_numberEntries_46 : decode b_RC_numberEntries 46 = .ok (.invokevirtual 44, 3) := by decide +kernel
theorem d_RC_numberEntries_49 : decode b_RC_numberEntries 49 = .ok (.istore 4, 2) := by decide +kernel
theorem d_RC_numberEntries_51 : decode b_RC_numberEntries 51 = .ok (.iload 4, 2) := by decide +kernel
theorem d_RC_numberEntries_53 : decode b_RC_numberEntries 53 = .ok (.iload_n 3, 1) := by decide +kernel
theorem d_RC_numberEntries_54 : decode b_RC_numberEntries 54 = .ok (.if_icmp .gt 34, 3) := by decide +kernel
theorem d_RC_numberEntries_57 : decode b_RC_numberEntries 57 = .ok (.aload_n 0, 1) := by decide +kernel
theorem d_RC_numberEntries_58 : decode b_RC_numberEntries 58 = .ok (.getfield 23, 3) := by decide +kernel
theorem d_RC_numberEntries_61 : decode b_RC_numberEntries 61 = .ok (.getfield 35, 3) := by decide +kernel
theorem d_RC_numberEntries_64 : decode b_RC_numberEntries 64 = .ok (.iload 4, 2) := by decide +kernel
theorem d_RC_numberEntries_66 : decode b_RC_numberEntries 66 = .ok (.bipush 6, 2) := by decide +kernel
theorem d_RC_numberEntries_68 : decode b_RC_numberEntries 68 = .ok (.iload_n 1, 1) := by decide +kernel
theorem d_RC_numberEntries_69 : decode b_RC_numberEntries 69 = .ok (.invokevirtual 59, 3) := by decide +kernel
theorem d_RC_numberEntries_72 : decode b_RC_numberEntries 72 = .ok (.iload_n 1, 1) := by decide +kernel
theorem d_RC_numberEntries_73 : decode b_RC_numberEntries 73 = .ok (.aload_n 0, 1) := by decide +kernel
theorem d_RC_numberEntries_74 : decode b_RC_numberEntries 74 = .ok (.iload 4, 2) := by decide +kernel
theorem d_RC_numberEntries_76 : decode b_RC_numberEntries 76 = .ok (.iload_n 3, 1) := by decide +kernel
theorem d_RC_numberEntries_77 : decode b_RC_numberEntries 77 = .ok (.invokevirtual 63, 3) := by decide +kernel
theorem d_RC_numberEntries_80 : decode b_RC_numberEntries 80 = .ok (.iadd, 1) := by decide +kernel
theorem d_RC_numberEntries_81 : decode b_RC_numberEntries 81 = .ok (.istore_n 1, 1) := by decide +kernel
theorem d_RC_numberEntries_82 : decode b_RC_numberEntries 82 = .ok (.iinc 4 1, 3) := by decide +kernel
theorem d_RC_numberEntries_85 : decode b_RC_numberEntries 85 = .ok (.goto (-34), 3) := by decide +kernel
theorem d_RC_numberEntries_88 : decode b_RC_numberEntries 88 = .ok (.iinc 2 1, 3) := by decide +kernel
theorem d_RC_numberEntries_91 : decode b_RC_numberEntries 91 = .ok (.goto (-87), 3) := by decide +kernel
theorem d_RC_numberEntries_94 : decode b_RC_numberEntries 94 = .ok (.return_, 1) := by decide +kernel
