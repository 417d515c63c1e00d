theorem d_RC_targetOf_0 : decode b_RC_targetOf 0 = .ok (.aload_n 0, 1) := by decide +kernel
theorem d_RC_targetOf_1 : decode b_RC_targetOf 1 = .ok (.getfield 71, 3) := by decide +kernel
theorem d_RC_targetOf_4 : decode b_RC_targetOf 4 = .ok (.iconst 1, 1) := by decide +kernel
theorem d_RC_targetOf_5 : decode b_RC_targetOf 5 = .ok (.isub, 1) := by decide +kernel
theorem d_RC_targetOf_6 : decode b_RC_targetOf 6 = .ok (.iload_n 1, 1) := by decide +kernel
theorem d_RC_targetOf_7 : decode b_RC_targetOf 7 = .ok (.isub, 1) := by decide +kernel
theorem d_RC_targetOf_8 : decode b_RC_targetOf 8 = .ok (.istore_n 2, 1) := by decide +kernel
theorem d_RC_targetOf_9 : decode b_RC_targetOf 9 = .ok (.iload_n 2, 1) := by decide +kernel
theorem d_RC_targetOf_10 : decode b_RC_targetOf 10 = .ok (.ifCond .ge 31, 3) := by decide +kernel
theorem d_RC_targetOf_13 : decode b_RC_targetOf 13 = .ok (.aload_n 0, 1) := by decide +kernel
theorem d_RC_targetOf_14 : decode b_RC_targetOf 14 = .ok (.getfield 23, 3) := by decide +kernel
theorem d_RC_targetOf_17 : decode b_RC_targetOf 17 = .ok (.getfield 35, 3) := by decide +kernel
theorem d_RC_targetOf_20 : decode b_RC_targetOf 20 = .ok (.aload_n 0, 1) := by decide +kernel
theorem d_RC_targetOf_21 : decode b_RC_targetOf 21 = .ok (.getfield 23, 3) := by decide +kernel
theorem d_RC_targetOf_24 : decode b_RC_targetOf 24 = .ok (.getfield 41, 3) := by decide +kernel
theorem d_RC_targetOf_27 : decode b_RC_targetOf 27 = .ok (.aload_n 0, 1) := by decide +kernel
theorem d_RC_targetOf_28 : decode b_RC_targetOf 28 = .ok (.getfield 68, 3) := by decide +kernel
theorem d_RC_targetOf_31 : decode b_RC_targetOf 31 = .ok (.iconst 3, 1) := by decide +kernel
theorem d_RC_targetOf_32 : decode b_RC_targetOf 32 = .ok (.invokevirtual 44, 3) := by decide +kernel
theorem d_RC_targetOf_35 : decode b_RC_targetOf 35 = .ok (.bipush 6, 2) := by decide +kernel
theorem d_RC_targetOf_37 : decode b_RC_targetOf 37 = .ok (.invokevirtual 44, 3) := by decide +kernel
theorem d_RC_targetOf_40 : decode b_RC_targetOf 40 = .ok (.ireturn, 1) := by decide +kernel
theorem d_RC_targetOf_41 : decode b_RC_targetOf 41 = .ok (.aload_n 0, 1) := by decide +kernel
theorem d_RC_targetOf_42 : decode b_RC_targetOf 42 = .ok (.getfield 20, 3) := by decide +kernel
theorem d_RC_targetOf_45 : decode b_RC_targetOf 45 = .ok (.iload_n 2, 1) := by decide +kernel
theorem d_RC_targetOf_46 : decode b_RC_targetOf 46 = .ok (.invokevirtual 31, 3) := by decide +kernel
theorem d_RC_targetOf_49 : decode b_RC_targetOf 49 = .ok (.istore_n 3, 1) := by decide +kernel
theorem d_RC_targetOf_50 : decode b_RC_targetOf 50 = .ok (.aload_n 0, 1) := by decide +kernel
theorem d_RC_targetOf_51 : decode b_RC_targetOf 51 = .ok (.getfield 23, 3) := by decide +kernel
theorem d_RC_targetOf_54 : decode b_RC_targetOf 54 = .ok (.getfield 35, 3) := by decide +kernel
theorem d_RC_targetOf_57 : decode b_RC_targetOf 57 = .ok (.iload_n 3, 1) := by decide +kernel
theorem d_RC_targetOf_58 : decode b_RC_targetOf 58 = .ok (.iconst 0, 1) := by decide +kernel
theorem d_RC_targetOf_59 : decode b_RC_targetOf 59 = .ok (.invokevirtual 44, 3) := by decide +kernel
theorem d_RC_targetOf_62 : decode b_RC_targetOf 62 = .ok (.iconst 3, 1) := by decide +kernel
theorem d_RC_targetOf_63 : decode b_RC_targetOf 63 = .ok (.if_icmp .ne 7, 3) := by decide +kernel
theorem d_RC_targetOf_66 : decode b_RC_targetOf 66 = .ok (.iconst 1, 1) := by decide +kernel
theorem d_RC_targetOf_67 : decode b_RC_targetOf 67 = .ok (.goto 4, 3) := by decide +kernel
theorem d_RC_targetOf_70 : decode b_RC_targetOf 70 = .ok (.iconst 0, 1) := by decide +kernel
theorem d_RC_targetOf_71 : decode b_RC_targetOf 71 = .ok (.istore 4, 2) := by decide +kernel
theorem d_RC_targetOf_73 : decode b_RC_targetOf 73 = .ok (.aload_n 0, 1) := by decide +kernel
theorem d_RC_targetOf_74 : decode b_RC_targetOf 74 = .ok (.getfield 23, 3) := by decide +kernel
theorem d_RC_targetOf_77 : decode b_RC_targetOf 77 = .ok (.getfield 35, 3) := by decide +kernel
theorem d_RC_targetOf_80 : decode b_RC_targetOf 80 = .ok (.iload 4, 2) := by decide +kernel
theorem d_RC_targetOf_82 : decode b_RC_targetOf 82 = .ok (.ifCond .eq 9, 3) := by decide +kernel
theorem d_RC_targetOf_85 : decode b_RC_targetOf 85 = .ok (.iload_n 3, 1) := by decide +kernel
theorem d_RC_targetOf_86 : decode b_RC_targetOf 86 = .ok (.iconst 1, 1) := by decide +kernel
theorem d_RC_targetOf_87 : decode b_RC_targetOf 87 = .ok (.iadd, 1) := by decide +kernel
theorem d_RC_targetOf_88 : decode b_RC_targetOf 88 = .ok (.goto 11, 3) := by decide +kernel
theorem d_RC_targetOf_91 : decode b_RC_targetOf 91 = .ok (.aload_n 0, 1) := by decide +kernel
theorem d_RC_targetOf_92 : decode b_RC_targetOf 92 = .ok (.getfield 23, 3) := by decide +kernel
theorem d_RC_targetOf_95 : decode b_RC_targetOf 95 = .ok (.iload_n 3, 1) := by decide +kernel
theorem d_RC_targetOf_96 : decode b_RC_targetOf 96 = .ok (.invokevirtual 115, 3) := by decide +kernel
theorem d_RC_targetOf_99 : decode b_RC_targetOf 99 = .ok (.bipush 6, 2) := by decide +kernel
theorem d_RC_targetOf_101 : decode b_RC_targetOf 101 = .ok (.invokevirtual 44, 3) := by decide +kernel
theorem d_RC_targetOf_104 : decode b_RC_targetOf 104 = .ok (.ireturn, 1) := by decide +kernel
theorem d_RC_secondWord_0 : decode b_RC_secondWord 0 = .ok (.aload_n 0, 1) := by decide +kernel
theorem d_RC_secondWord_1 : decode b_RC_secondWord 1 = .ok (.getfield 23, 3) := by decide +kernel
theorem d_RC_secondWord_4 : decode b_RC_secondWord 4 = .ok (.getfield 35, 3) := by decide +kernel
theorem d_RC_secondWord_7 : decode b_RC_secondWord 7 = .ok (.iload_n 1, 1) := by decide +kernel
theorem d_RC_secondWord_8 : decode b_RC_secondWord 8 = .ok (.iconst 1, 1) := by decide +kernel
theorem d_RC_secondWord_9 : decode b_RC_secondWord 9 = .ok (.invokevirtual 44, 3) := by decide +kernel
theorem d_RC_secondWord_12 : decode b_RC_secondWord 12 = .ok (.istore_n 3, 1) := by decide +kernel
theorem d_RC_secondWord_13 : decode b_RC_secondWord 13 = .ok (.iload_n 2, 1) := by decide +kernel
theorem d_RC_secondWord_14 : decode b_RC_secondWord 14 = .ok (.tableswitch 134 2 16 #[132, 132, 80, 101, 134, 134, 134, 134, 134, 134, 74, 74, 134, 134, 126], 74) := by decide +kernel
theorem d_RC_secondWord_88 : decode b_RC_secondWord 88 = .ok (.aload_n 0, 1) := by decide +kernel
theorem d_RC_secondWord_89 : decode b_RC_secondWord 89 = .ok (.iload_n 3, 1) := by decide +kernel
theorem d_RC_secondWord_90 : decode b_RC_secondWord 90 = .ok (.invokevirtual 100, 3) := by decide +kernel
theorem d_RC_secondWord_93 : decode b_RC_secondWord 93 = .ok (.ireturn, 1) := by decide +kernel
theorem d_RC_secondWord_94 : decode b_RC_secondWord 94 = .ok (.aload_n 0, 1) := by decide +kernel
theorem d_RC_secondWord_95 : decode b_RC_secondWord 95 = .ok (.getfield 23, 3) := by decide +kernel
theorem d_RC_secondWord_98 : decode b_RC_secondWord 98 = .ok (.getfield 35, 3) := by decide +kernel
theorem d_RC_secondWord_101 : decode b_RC_secondWord 101 = .ok (.aload_n 0, 1) := by decide +kernel
theorem d_RC_secondWord_102 : decode b_RC_secondWord 102 = .ok (.getfield 23, 3) := by decide +kernel
theorem d_RC_secondWord_105 : decode b_RC_secondWord 105 = .ok (.iload_n 1, 1) := by decide +kernel
theorem d_RC_secondWord_106 : decode b_RC_secondWord 106 = .ok (.invokevirtual 106, 3) := by decide +kernel
theorem d_RC_secondWord_109 : decode b_RC_secondWord 109 = .ok (.bipush 6, 2) := by decide +kernel
theorem d_RC_secondWord_111 : decode b_RC_secondWord 111 = .ok (.invokevirtual 44, 3) := by decide +kernel
theorem d_RC_secondWord_114 : decode b_RC_secondWord 114 = .ok (.ireturn, 1) := by decide +kernel
theorem d_RC_secondWord_115 : decode b_RC_secondWord 115 = .ok (.aload_n 0, 1) := by decide +kernel
theorem d_RC_secondWord_116 : decode b_RC_secondWord 116 = .ok (.getfield 23, 3) := by decide +kernel
theorem d_RC_secondWord_119 : decode b_RC_secondWord 119 = .ok (.getfield 35, 3) := by decide +kernel
theorem d_RC_secondWord_122 : decode b_RC_secondWord 122 = .ok (.aload_n 0, 1) := by decide +kernel
theorem d_RC_secondWord_123 : decode b_RC_secondWord 123 = .ok (.getfield 23, 3) := by decide +kernel
theorem d_RC_secondWord_126 : decode b_RC_secondWord 126 = .ok (.getfield 35, 3) := by decide +kernel
theorem d_RC_secondWord_129 : decode b_RC_secondWord 129 = .ok (.iload_n 1, 1) := by decide +kernel
theorem d_RC_secondWord_130 : decode b_RC_secondWord 130 = .ok (.iconst 3, 1) := by decide +kernel
theorem d_RC_secondWord_131 : decode b_RC_secondWord 131 = .ok (.invokevirtual 44, 3) := by decide +kernel
theorem d_RC_secondWord_134 : decode b_RC_secondWord 134 = .ok (.bipush 6, 2) := by decide +kernel
theorem d_RC_secondWord_136 : decode b_RC_secondWord 136 = .ok (.invokevirtual 44, 3) := by decide +kernel
theorem d_RC_secondWord_139 : decode b_RC_secondWord 139 = .ok (.ireturn, 1) := by decide +kernel
theorem d_RC_secondWord_140 : decode b_RC_secondWord 140 = .ok (.aload_n 0, 1) := by decide +kernel
theorem d_RC_secondWord_141 : decode b_RC_secondWord 141 = .ok (.iload_n 3, 1) := by decide +kernel
theorem d_RC_secondWord_142 : decode b_RC_secondWord 142 = .ok (.invokevirtual 109, 3) := by decide +kernel
theorem d_RC_secondWord_145 : decode b_RC_secondWord 145 = .ok (.ireturn, 1) := by decide +kernel
theorem d_RC_secondWord_146 : decode b_RC_secondWord 146 = .ok (.iconst 0, 1) := by decide +kernel
theorem d_RC_secondWord_147 : decode b_RC_secondWord 147 = .ok (.ireturn, 1) := by decide +kernel
theorem d_RC_secondWord_148 : decode b_RC_secondWord 148 = .ok (.iload_n 3, 1) := by decide +kernel
theorem d_RC_secondWord_149 : decode b_RC_secondWord 149 = .ok (.ireturn, 1) := by decide +kernel
theorem d_RC_leftAt_0 : decode b_RC_leftAt 0 = .ok (.aload_n 0, 1) := by decide +kernel
theorem d_RC_leftAt_1 : decode b_RC_leftAt 1 = .ok (.getfield 23, 3) := by decide +kernel
theorem d_RC_leftAt_4 : decode b_RC_leftAt 4 = .ok (.getfield 41, 3) := by decide +kernel
theorem d_RC_leftAt_7 : decode b_RC_leftAt 7 = .ok (.aload_n 0, 1) := by decide +kernel
theorem d_RC_leftAt_8 : decode b_RC_leftAt 8 = .ok (.getfield 68, 3) := by decide +kernel
theorem d_RC_leftAt_11 : decode b_RC_leftAt 11 = .ok (.iconst 1, 1) := by decide +kernel
theorem d_RC_leftAt_12 : decode b_RC_leftAt 12 = .ok (.invokevirtual 44, 3) := by decide +kernel
theorem d_RC_leftAt_15 : decode b_RC_leftAt 15 = .ok (.istore_n 2, 1) := by decide +kernel
theorem d_RC_leftAt_16 : decode b_RC_leftAt 16 = .ok (.aload_n 0, 1) := by decide +kernel
theorem d_RC_leftAt_17 : decode b_RC_leftAt 17 = .ok (.getfield 71, 3) := by decide +kernel
theorem d_RC_leftAt_20 : decode b_RC_leftAt 20 = .ok (.iconst 1, 1) := by decide +kernel
theorem d_RC_leftAt_21 : decode b_RC_leftAt 21 = .ok (.isub, 1) := by decide +kernel
theorem d_RC_leftAt_22 : decode b_RC_leftAt 22 = .ok (.iload_n 1, 1) := by decide +kernel
theorem d_RC_leftAt_23 : decode b_RC_leftAt 23 = .ok (.isub, 1) := by decide +kernel
theorem d_RC_leftAt_24 : decode b_RC_leftAt 24 = .ok (.istore_n 3, 1) := by decide +kernel
theorem d_RC_leftAt_25 : decode b_RC_leftAt 25 = .ok (.iload_n 3, 1) := by decide +kernel
theorem d_RC_leftAt_26 : decode b_RC_leftAt 26 = .ok (.ifCond .ge 19, 3) := by decide +kernel
theorem d_RC_leftAt_29 : decode b_RC_leftAt 29 = .ok (.iconst 2, 1) := by decide +kernel
theorem d_RC_leftAt_30 : decode b_RC_leftAt 30 = .ok (.iload_n 2, 1) := by decide +kernel
theorem d_RC_leftAt_31 : decode b_RC_leftAt 31 = .ok (.imul, 1) := by decide +kernel
theorem d_RC_leftAt_32 : decode b_RC_leftAt 32 = .ok (.aload_n 0, 1) := by decide +kernel
theorem d_RC_leftAt_33 : decode b_RC_leftAt 33 = .ok (.getfield 23, 3) := by decide +kernel
theorem d_RC_leftAt_36 : decode b_RC_leftAt 36 = .ok (.aload_n 0, 1) := by decide +kernel
theorem d_RC_leftAt_37 : decode b_RC_leftAt 37 = .ok (.getfield 68, 3) := by decide +kernel
theorem d_RC_leftAt_40 : decode b_RC_leftAt 40 = .ok (.invokevirtual 84, 3) := by decide +kernel
theorem d_RC_leftAt_43 : decode b_RC_leftAt 43 = .ok (.iadd, 1) := by decide +kernel
theorem d_RC_leftAt_44 : decode b_RC_leftAt 44 = .ok (.ireturn, 1) := by decide +kernel
theorem d_RC_leftAt_45 : decode b_RC_leftAt 45 = .ok (.aload_n 0, 1) := by decide +kernel
theorem d_RC_leftAt_46 : decode b_RC_leftAt 46 = .ok (.getfield 20, 3) := by decide +kernel
theorem d_RC_leftAt_49 : decode b_RC_leftAt 49 = .ok (.iload_n 3, 1) := by decide +kernel
theorem d_RC_leftAt_50 : decode b_RC_leftAt 50 = .ok (.invokevirtual 31, 3) := by decide +kernel
theorem d_RC_leftAt_53 : decode b_RC_leftAt 53 = .ok (.istore 4, 2) := by decide +kernel
theorem d_RC_leftAt_55 : decode b_RC_leftAt 55 = .ok (.aload_n 0, 1) := by decide +kernel
theorem d_RC_leftAt_56 : decode b_RC_leftAt 56 = .ok (.getfield 23, 3) := by decide +kernel
theorem d_RC_leftAt_59 : decode b_RC_leftAt 59 = .ok (.getfield 35, 3) := by decide +kernel
theorem d_RC_leftAt_62 : decode b_RC_leftAt 62 = .ok (.iload 4, 2) := by decide +kernel
theorem d_RC_leftAt_64 : decode b_RC_leftAt 64 = .ok (.iconst 0, 1) := by decide +kernel
theorem d_RC_leftAt_65 : decode b_RC_leftAt 65 = .ok (.invokevirtual 44, 3) := by decide +kernel
theorem d_RC_leftAt_68 : decode b_RC_leftAt 68 = .ok (.iconst 4, 1) := by decide +kernel
theorem d_RC_leftAt_69 : decode b_RC_leftAt 69 = .ok (.if_icmp .ne 7, 3) := by decide +kernel
theorem d_RC_leftAt_72 : decode b_RC_leftAt 72 = .ok (.iconst 1, 1) := by decide +kernel
theorem d_RC_leftAt_73 : decode b_RC_leftAt 73 = .ok (.goto 4, 3) := by decide +kernel
theorem d_RC_leftAt_76 : decode b_RC_leftAt 76 = .ok (.iconst 0, 1) := by decide +kernel
theorem d_RC_leftAt_77 : decode b_RC_leftAt 77 = .ok (.istore 5, 2) := by decide +kernel
theorem d_RC_leftAt_79 : decode b_RC_leftAt 79 = .ok (.aload_n 0, 1) := by decide +kernel
theorem d_RC_leftAt_80 : decode b_RC_leftAt 80 = .ok (.getfield 23, 3) := by decide +kernel
theorem d_RC_leftAt_83 : decode b_RC_leftAt 83 = .ok (.getfield 35, 3) := by decide +kernel
theorem d_RC_leftAt_86 : decode b_RC_leftAt 86 = .ok (.iload 4, 2) := by decide +kernel
theorem d_RC_leftAt_88 : decode b_RC_leftAt 88 = .ok (.iconst 4, 1) := by decide +kernel
theorem d_RC_leftAt_89 : decode b_RC_leftAt 89 = .ok (.invokevirtual 44, 3) := by decide +kernel
theorem d_RC_leftAt_92 : decode b_RC_leftAt 92 = .ok (.iload 5, 2) := by decide +kernel
theorem d_RC_leftAt_94 : decode b_RC_leftAt 94 = .ok (.isub, 1) := by decide +kernel
theorem d_RC_leftAt_95 : decode b_RC_leftAt 95 = .ok (.istore 6, 2) := by decide +kernel
theorem d_RC_leftAt_97 : decode b_RC_leftAt 97 = .ok (.iconst 2, 1) := by decide +kernel
theorem d_RC_leftAt_98 : decode b_RC_leftAt 98 = .ok (.iload_n 2, 1) := by decide +kernel
theorem d_RC_leftAt_99 : decode b_RC_leftAt 99 = .ok (.iload 6, 2) := by decide +kernel
theorem d_RC_leftAt_101 : decode b_RC_leftAt 101 = .ok (.iadd, 1) := by decide +kernel
theorem d_RC_leftAt_102 : decode b_RC_leftAt 102 = .ok (.imul, 1) := by decide +kernel
theorem d_RC_leftAt_103 : decode b_RC_leftAt 103 = .ok (.aload_n 0, 1) := by decide +kernel
theorem d_RC_leftAt_104 : decode b_RC_leftAt 104 = .ok (.getfield 23, 3) := by decide +kernel
theorem d_RC_leftAt_107 : decode b_RC_leftAt 107 = .ok (.iload 4, 2) := by decide +kernel
theorem d_RC_leftAt_109 : decode b_RC_leftAt 109 = .ok (.invokevirtual 118, 3) := by decide +kernel
theorem d_RC_leftAt_112 : decode b_RC_leftAt 112 = .ok (.iadd, 1) := by decide +kernel
theorem d_RC_leftAt_113 : decode b_RC_leftAt 113 = .ok (.ireturn, 1) := by decide +kernel
theorem d_RC_thirdWord_0 : decode b_RC_thirdWord 0 = .ok (.aload_n 0, 1) := by decide +kernel
theorem d_RC_thirdWord_1 : decode b_RC_thirdWord 1 = .ok (.getfield 23, 3) := by decide +kernel
theorem d_RC_thirdWord_4 : decode b_RC_thirdWord 4 = .ok (.getfield 35, 3) := by decide +kernel
theorem d_RC_thirdWord_7 : decode b_RC_thirdWord 7 = .ok (.iload_n 1, 1) := by decide +kernel
theorem d_RC_thirdWord_8 : decode b_RC_thirdWord 8 = .ok (.iconst 1, 1) := by decide +kernel
theorem d_RC_thirdWord_9 : decode b_RC_thirdWord 9 = .ok (.invokevirtual 44, 3) := by decide +kernel
theorem d_RC_thirdWord_12 : decode b_RC_thirdWord 12 = .ok (.istore_n 3, 1) := by decide +kernel
theorem d_RC_thirdWord_13 : decode b_RC_thirdWord 13 = .ok (.iload_n 2, 1) := by decide +kernel
theorem d_RC_thirdWord_14 : decode b_RC_thirdWord 14 = .ok (.tableswitch 65 11 16 #[53, 38, 38, 65, 53, 44], 38) := by decide +kernel
theorem d_RC_thirdWord_52 : decode b_RC_thirdWord 52 = .ok (.aload_n 0, 1) := by decide +kernel
theorem d_RC_thirdWord_53 : decode b_RC_thirdWord 53 = .ok (.iload_n 3, 1) := by decide +kernel
theorem d_RC_thirdWord_54 : decode b_RC_thirdWord 54 = .ok (.invokevirtual 103, 3) := by decide +kernel
theorem d_RC_thirdWord_57 : decode b_RC_thirdWord 57 = .ok (.ireturn, 1) := by decide +kernel
theorem d_RC_thirdWord_58 : decode b_RC_thirdWord 58 = .ok (.aload_n 0, 1) := by decide +kernel
theorem d_RC_thirdWord_59 : decode b_RC_thirdWord 59 = .ok (.getfield 23, 3) := by decide +kernel
theorem d_RC_thirdWord_62 : decode b_RC_thirdWord 62 = .ok (.iload_n 3, 1) := by decide +kernel
theorem d_RC_thirdWord_63 : decode b_RC_thirdWord 63 = .ok (.invokevirtual 112, 3) := by decide +kernel
theorem d_RC_thirdWord_66 : decode b_RC_thirdWord 66 = .ok (.ireturn, 1) := by decide +kernel
theorem d_RC_thirdWord_67 : decode b_RC_thirdWord 67 = .ok (.aload_n 0, 1) := by decide +kernel
theorem d_RC_thirdWord_68 : decode b_RC_thirdWord 68 = .ok (.getfield 23, 3) := by decide +kernel
theorem d_RC_thirdWord_71 : decode b_RC_thirdWord 71 = .ok (.aload_n 0, 1) := by decide +kernel
theorem d_RC_thirdWord_72 : decode b_RC_thirdWord 72 = .ok (.getfield 68, 3) := by decide +kernel
theorem d_RC_thirdWord_75 : decode b_RC_thirdWord 75 = .ok (.invokevirtual 84, 3) := by decide +kernel
theorem d_RC_thirdWord_78 : decode b_RC_thirdWord 78 = .ok (.ireturn, 1) := by decide +kernel
theorem d_RC_thirdWord_79 : decode b_RC_thirdWord 79 = .ok (.iconst 0, 1) := by decide +kernel
theorem d_RC_thirdWord_80 : decode b_RC_thirdWord 80 = .ok (.ireturn, 1) := by decide +kernel
theorem d_RC_write_0 : decode b_RC_write 0 = .ok (.aload_n 0, 1) := by decide +kernel
theorem d_RC_write_1 : decode b_RC_write 1 = .ok (.getfield 27, 3) := by decide +kernel
theorem d_RC_write_4 : decode b_RC_write 4 = .ok (.iconst 4, 1) := by decide +kernel
theorem d_RC_write_5 : decode b_RC_write 5 = .ok (.imul, 1) := by decide +kernel
theorem d_RC_write_6 : decode b_RC_write 6 = .ok (.istore 5, 2) := by decide +kernel
theorem d_RC_write_8 : decode b_RC_write 8 = .ok (.aload_n 0, 1) := by decide +kernel
theorem d_RC_write_9 : decode b_RC_write 9 = .ok (.getfield 16, 3) := by decide +kernel
theorem d_RC_write_12 : decode b_RC_write 12 = .ok (.iload 5, 2) := by decide +kernel
theorem d_RC_write_14 : decode b_RC_write 14 = .ok (.iload_n 1, 1) := by decide +kernel
theorem d_RC_write_15 : decode b_RC_write 15 = .ok (.invokevirtual 82, 3) := by decide +kernel
theorem d_RC_write_18 : decode b_RC_write 18 = .ok (.aload_n 0, 1) := by decide +kernel
theorem d_RC_write_19 : decode b_RC_write 19 = .ok (.getfield 16, 3) := by decide +kernel
theorem d_RC_write_22 : decode b_RC_write 22 = .ok (.iload 5, 2) := by decide +kernel
theorem d_RC_write_24 : decode b_RC_write 24 = .ok (.iconst 1, 1) := by decide +kernel
theorem d_RC_write_25 : decode b_RC_write 25 = .ok (.iadd, 1) := by decide +kernel
theorem d_RC_write_26 : decode b_RC_write 26 = .ok (.iload_n 2, 1) := by decide +kernel
theorem d_RC_write_27 : decode b_RC_write 27 = .ok (.invokevirtual 82, 3) := by decide +kernel
theorem d_RC_write_30 : decode b_RC_write 30 = .ok (.aload_n 0, 1) := by decide +kernel
theorem d_RC_write_31 : decode b_RC_write 31 = .ok (.getfield 16, 3) := by decide +kernel
theorem d_RC_write_34 : decode b_RC_write 34 = .ok (.iload 5, 2) := by decide +kernel
theorem d_RC_write_36 : decode b_RC_write 36 = .ok (.iconst 2, 1) := by decide +kernel
theorem d_RC_write_37 : decode b_RC_write 37 = .ok (.iadd, 1) := by decide +kernel
theorem d_RC_write_38 : decode b_RC_write 38 = .ok (.iload_n 3, 1) := by decide +kernel
theorem d_RC_write_39 : decode b_RC_write 39 = .ok (.invokevirtual 82, 3) := by decide +kernel
theorem d_RC_write_42 : decode b_RC_write 42 = .ok (.aload_n 0, 1) := by decide +kernel
theorem d_RC_write_43 : decode b_RC_write 43 = .ok (.getfield 16, 3) := by decide +kernel
theorem d_RC_write_46 : decode b_RC_write 46 = .ok (.iload 5, 2) := by decide +kernel
theorem d_RC_write_48 : decode b_RC_write 48 = .ok (.iconst 3, 1) := by decide +kernel
theorem d_RC_write_49 : decode b_RC_write 49 = .ok (.iadd, 1) := by decide +kernel
theorem d_RC_write_50 : decode b_RC_write 50 = .ok (.iload 4, 2) := by decide +kernel
theorem d_RC_write_52 : decode b_RC_write 52 = .ok (.invokevirtual 82, 3) := by decide +kernel
theorem d_RC_write_55 : decode b_RC_write 55 = .ok (.aload_n 0, 1) := by decide +kernel
theorem d_RC_write_56 : decode b_RC_write 56 = .ok (.dup, 1) := by decide +kernel
theorem d_RC_write_57 : decode b_RC_write 57 = .ok (.getfield 27, 3) := by decide +kernel
theorem d_RC_write_60 : decode b_RC_write 60 = .ok (.iconst 1, 1) := by decide +kernel
theorem d_RC_write_61 : decode b_RC_write 61 = .ok (.iadd, 1) := by decide +kernel
theorem d_RC_write_62 : decode b_RC_write 62 = .ok (.putfield 27, 3) := by decide +kernel
theorem d_RC_write_65 : decode b_RC_write 65 = .ok (.return_, 1) := by decide +kernel
theorem d_RC_writeInstruction_0 : decode b_RC_writeInstruction 0 = .ok (.iload_n 2, 1) := by decide +kernel
theorem d_RC_writeInstruction_1 : decode b_RC_writeInstruction 1 = .ok (.bipush 11, 2) := by decide +kernel
theorem d_RC_writeInstruction_3 : decode b_RC_writeInstruction 3 = .ok (.if_icmp .ne 17, 3) := by decide +kernel
theorem d_RC_writeInstruction_6 : decode b_RC_writeInstruction 6 = .ok (.aload_n 0, 1) := by decide +kernel
theorem d_RC_writeInstruction_7 : decode b_RC_writeInstruction 7 = .ok (.getfield 23, 3) := by decide +kernel
theorem d_RC_writeInstruction_10 : decode b_RC_writeInstruction 10 = .ok (.aload_n 0, 1) := by decide +kernel
theorem d_RC_writeInstruction_11 : decode b_RC_writeInstruction 11 = .ok (.getfield 68, 3) := by decide +kernel
theorem d_RC_writeInstruction_14 : decode b_RC_writeInstruction 14 = .ok (.invokevirtual 84, 3) := by decide +kernel
theorem d_RC_writeInstruction_17 : decode b_RC_writeInstruction 17 = .ok (.goto 15, 3) := by decide +kernel
theorem d_RC_writeInstruction_20 : decode b_RC_writeInstruction 20 = .ok (.aload_n 0, 1) := by decide +kernel
theorem d_RC_writeInstruction_21 : decode b_RC_writeInstruction 21 = .ok (.getfield 23, 3) := by decide +kernel
theorem d_RC_writeInstruction_24 : decode b_RC_writeInstruction 24 = .ok (.getfield 35, 3) := by decide +kernel
theorem d_RC_writeInstruction_27 : decode b_RC_writeInstruction 27 = .ok (.iload_n 1, 1) := by decide +kernel
theorem d_RC_writeInstruction_28 : decode b_RC_writeInstruction 28 = .ok (.iconst 4, 1) := by decide +kernel
theorem d_RC_writeInstruction_29 : decode b_RC_writeInstruction 29 = .ok (.invokevirtual 44, 3) := by decide +kernel
theorem d_RC_writeInstruction_32 : decode b_RC_writeInstruction 32 = .ok (.istore_n 3, 1) := by decide +kernel
theorem d_RC_writeInstruction_33 : decode b_RC_writeInstruction 33 = .ok (.aload_n 0, 1) := by decide +kernel
theorem d_RC_writeInstruction_34 : decode b_RC_writeInstruction 34 = .ok (.getfield 23, 3) := by decide +kernel
theorem d_RC_writeInstruction_37 : decode b_RC_writeInstruction 37 = .ok (.getfield 41, 3) := by decide +kernel
theorem d_RC_writeInstruction_40 : decode b_RC_writeInstruction 40 = .ok (.aload_n 0, 1) := by decide +kernel
theorem d_RC_writeInstruction_41 : decode b_RC_writeInstruction 41 = .ok (.getfield 68, 3) := by decide +kernel
theorem d_RC_writeInstruction_44 : decode b_RC_writeInstruction 44 = .ok (.iconst 1, 1) := by decide +kernel
theorem d_RC_writeInstruction_45 : decode b_RC_writeInstruction 45 = .ok (.invokevirtual 44, 3) := by decide +kernel
theorem d_RC_writeInstruction_48 : decode b_RC_writeInstruction 48 = .ok (.iload_n 3, 1) := by decide +kernel
theorem d_RC_writeInstruction_49 : decode b_RC_writeInstruction 49 = .ok (.iadd, 1) := by decide +kernel
theorem d_RC_writeInstruction_50 : decode b_RC_writeInstruction 50 = .ok (.istore 4, 2) := by decide +kernel
theorem d_RC_writeInstruction_52 : decode b_RC_writeInstruction 52 = .ok (.aload_n 0, 1) := by decide +kernel
theorem d_RC_writeInstruction_53 : decode b_RC_writeInstruction 53 = .ok (.iload_n 2, 1) := by decide +kernel
theorem d_RC_writeInstruction_54 : decode b_RC_writeInstruction 54 = .ok (.iload 4, 2) := by decide +kernel
theorem d_RC_writeInstruction_56 : decode b_RC_writeInstruction 56 = .ok (.aload_n 0, 1) := by decide +kernel
theorem d_RC_writeInstruction_57 : decode b_RC_writeInstruction 57 = .ok (.iload_n 1, 1) := by decide +kernel
theorem d_RC_writeInstruction_58 : decode b_RC_writeInstruction 58 = .ok (.iload_n 2, 1) := by decide +kernel
theorem d_RC_writeInstruction_59 : decode b_RC_writeInstruction 59 = .ok (.invokevirtual 87, 3) := by decide +kernel
theorem d_RC_writeInstruction_62 : decode b_RC_writeInstruction 62 = .ok (.aload_n 0, 1) := by decide +kernel
theorem d_RC_writeInstruction_63 : decode b_RC_writeInstruction 63 = .ok (.iload_n 1, 1) := by decide +kernel
theorem d_RC_writeInstruction_64 : decode b_RC_writeInstruction 64 = .ok (.iload_n 2, 1) := by decide +kernel
theorem d_RC_writeInstruction_65 : decode b_RC_writeInstruction 65 = .ok (.invokevirtual 90, 3) := by decide +kernel
theorem d_RC_writeInstruction_68 : decode b_RC_writeInstruction 68 = .ok (.invokevirtual 93, 3) := by decide +kernel
theorem d_RC_writeInstruction_71 : decode b_RC_writeInstruction 71 = .ok (.iload_n 2, 1) := by decide +kernel
theorem d_RC_writeInstruction_72 : decode b_RC_writeInstruction 72 = .ok (.bipush 14, 2) := by decide +kernel
theorem d_RC_writeInstruction_74 : decode b_RC_writeInstruction 74 = .ok (.if_icmp .ne 74, 3) := by decide +kernel
theorem d_RC_writeInstruction_77 : decode b_RC_writeInstruction 77 = .ok (.aload_n 0, 1) := by decide +kernel
theorem d_RC_writeInstruction_78 : decode b_RC_writeInstruction 78 = .ok (.getfield 23, 3) := by decide +kernel
theorem d_RC_writeInstruction_81 : decode b_RC_writeInstruction 81 = .ok (.getfield 35, 3) := by decide +kernel
theorem d_RC_writeInstruction_84 : decode b_RC_writeInstruction 84 = .ok (.iload_n 1, 1) := by decide +kernel
theorem d_RC_writeInstruction_85 : decode b_RC_writeInstruction 85 = .ok (.iconst 1, 1) := by decide +kernel
theorem d_RC_writeInstruction_86 : decode b_RC_writeInstruction 86 = .ok (.invokevirtual 44, 3) := by decide +kernel
theorem d_RC_writeInstruction_89 : decode b_RC_writeInstruction 89 = .ok (.istore 5, 2) := by decide +kernel
theorem d_RC_writeInstruction_91 : decode b_RC_writeInstruction 91 = .ok (.iconst 0, 1) := by decide +kernel
theorem d_RC_writeInstruction_92 : decode b_RC_writeInstruction 92 = .ok (.istore 6, 2) := by decide +kernel
theorem d_RC_writeInstruction_94 : decode b_RC_writeInstruction 94 = .ok (.iload 6, 2) := by decide +kernel
theorem d_RC_writeInstruction_96 : decode b_RC_writeInstruction 96 = .ok (.bipush 8, 2) := by decide +kernel
theorem d_RC_writeInstruction_98 : decode b_RC_writeInstruction 98 = .ok (.if_icmp .gt 50, 3) := by decide +kernel
theorem d_RC_writeInstruction_101 : decode b_RC_writeInstruction 101 = .ok (.iload 6, 2) := by decide +kernel
theorem d_RC_writeInstruction_103 : decode b_RC_writeInstruction 103 = .ok (.iload 5, 2) := by decide +kernel
theorem d_RC_writeInstruction_105 : decode b_RC_writeInstruction 105 = .ok (.if_icmp .gt 43, 3) := by decide +kernel
theorem d_RC_writeInstruction_108 : decode b_RC_writeInstruction 108 = .ok (.aload_n 0, 1) := by decide +kernel
theorem d_RC_writeInstruction_109 : decode b_RC_writeInstruction 109 = .ok (.getfield 23, 3) := by decide +kernel
theorem d_RC_writeInstruction_112 : decode b_RC_writeInstruction 112 = .ok (.iload_n 1, 1) := by decide +kernel
theorem d_RC_writeInstruction_113 : decode b_RC_writeInstruction 113 = .ok (.iload 6, 2) := by decide +kernel
theorem d_RC_writeInstruction_115 : decode b_RC_writeInstruction 115 = .ok (.invokevirtual 97, 3) := by decide +kernel
theorem d_RC_writeInstruction_118 : decode b_RC_writeInstruction 118 = .ok (.istore 7, 2) := by decide +kernel
theorem d_RC_writeInstruction_120 : decode b_RC_writeInstruction 120 = .ok (.aload_n 0, 1) := by decide +kernel
theorem d_RC_writeInstruction_121 : decode b_RC_writeInstruction 121 = .ok (.bipush 12, 2) := by decide +kernel
theorem d_RC_writeInstruction_123 : decode b_RC_writeInstruction 123 = .ok (.iload 4, 2) := by decide +kernel
theorem d_RC_writeInstruction_125 : decode b_RC_writeInstruction 125 = .ok (.iconst 1, 1) := by decide +kernel
theorem d_RC_writeInstruction_126 : decode b_RC_writeInstruction 126 = .ok (.isub, 1) := by decide +kernel
theorem d_RC_writeInstruction_127 : decode b_RC_writeInstruction 127 = .ok (.aload_n 0, 1) := by decide +kernel
theorem d_RC_writeInstruction_128 : decode b_RC_writeInstruction 128 = .ok (.iload 7, 2) := by decide +kernel
theorem d_RC_writeInstruction_130 : decode b_RC_writeInstruction 130 = .ok (.invokevirtual 100, 3) := by decide +kernel
theorem d_RC_writeInstruction_133 : decode b_RC_writeInstruction 133 = .ok (.aload_n 0, 1) := by decide +kernel
theorem d_RC_writeInstruction_134 : decode b_RC_writeInstruction 134 = .ok (.iload 7, 2) := by decide +kernel
theorem d_RC_writeInstruction_136 : decode b_RC_writeInstruction 136 = .ok (.invokevirtual 103, 3) := by decide +kernel
theorem d_RC_writeInstruction_139 : decode b_RC_writeInstruction 139 = .ok (.invokevirtual 93, 3) := by decide +kernel
theorem d_RC_writeInstruction_142 : decode b_RC_writeInstruction 142 = .ok (.iinc 6 1, 3) := by decide +kernel
theorem d_RC_writeInstruction_145 : decode b_RC_writeInstruction 145 = .ok (.goto (-51), 3) := by decide +kernel
theorem d_RC_writeInstruction_148 : decode b_RC_writeInstruction 148 = .ok (.return_, 1) := by decide +kernel
theorem d_RC_writeBody_0 : decode b_RC_writeBody 0 = .ok (.aload_n 0, 1) := by decide +kernel
theorem d_RC_writeBody_1 : decode b_RC_writeBody 1 = .ok (.iload_n 1, 1) := by decide +kernel
theorem d_RC_writeBody_2 : decode b_RC_writeBody 2 = .ok (.putfield 68, 3) := by decide +kernel
theorem d_RC_writeBody_5 : decode b_RC_writeBody 5 = .ok (.aload_n 0, 1) := by decide +kernel
theorem d_RC_writeBody_6 : decode b_RC_writeBody 6 = .ok (.iconst 0, 1) := by decide +kernel
theorem d_RC_writeBody_7 : decode b_RC_writeBody 7 = .ok (.putfield 71, 3) := by decide +kernel
theorem d_RC_writeBody_10 : decode b_RC_writeBody 10 = .ok (.aload_n 0, 1) := by decide +kernel
theorem d_RC_writeBody_11 : decode b_RC_writeBody 11 = .ok (.getfield 23, 3) := by decide +kernel
theorem d_RC_writeBody_14 : decode b_RC_writeBody 14 = .ok (.getfield 41, 3) := by decide +kernel
theorem d_RC_writeBody_17 : decode b_RC_writeBody 17 = .ok (.iload_n 1, 1) := by decide +kernel
theorem d_RC_writeBody_18 : decode b_RC_writeBody 18 = .ok (.iconst 3, 1) := by decide +kernel
theorem d_RC_writeBody_19 : decode b_RC_writeBody 19 = .ok (.invokevirtual 44, 3) := by decide +kernel
theorem d_RC_writeBody_22 : decode b_RC_writeBody 22 = .ok (.istore_n 2, 1) := by decide +kernel
theorem d_RC_writeBody_23 : decode b_RC_writeBody 23 = .ok (.aload_n 0, 1) := by decide +kernel
theorem d_RC_writeBody_24 : decode b_RC_writeBody 24 = .ok (.getfield 23, 3) := by decide +kernel
theorem d_RC_writeBody_27 : decode b_RC_writeBody 27 = .ok (.getfield 41, 3) := by decide +kernel
theorem d_RC_writeBody_30 : decode b_RC_writeBody 30 = .ok (.iload_n 1, 1) := by decide +kernel
theorem d_RC_writeBody_31 : decode b_RC_writeBody 31 = .ok (.iconst 2, 1) := by decide +kernel
theorem d_RC_writeBody_32 : decode b_RC_writeBody 32 = .ok (.invokevirtual 44, 3) := by decide +kernel
theorem d_RC_writeBody_35 : decode b_RC_writeBody 35 = .ok (.istore_n 3, 1) := by decide +kernel
theorem d_RC_writeBody_36 : decode b_RC_writeBody 36 = .ok (.iload_n 3, 1) := by decide +kernel
theorem d_RC_writeBody_37 : decode b_RC_writeBody 37 = .ok (.iload_n 2, 1) := by decide +kernel
theorem d_RC_writeBody_38 : decode b_RC_writeBody 38 = .ok (.if_icmp .gt 89, 3) := by decide +kernel
theorem d_RC_writeBody_41 : decode b_RC_writeBody 41 = .ok (.aload_n 0, 1) := by decide +kernel
theorem d_RC_writeBody_42 : decode b_RC_writeBody 42 = .ok (.getfield 23, 3) := by decide +kernel
theorem d_RC_writeBody_45 : decode b_RC_writeBody 45 = .ok (.getfield 35, 3) := by decide +kernel
theorem d_RC_writeBody_48 : decode b_RC_writeBody 48 = .ok (.iload_n 3, 1) := by decide +kernel
theorem d_RC_writeBody_49 : decode b_RC_writeBody 49 = .ok (.iconst 0, 1) := by decide +kernel
theorem d_RC_writeBody_50 : decode b_RC_writeBody 50 = .ok (.invokevirtual 44, 3) := by decide +kernel
theorem d_RC_writeBody_53 : decode b_RC_writeBody 53 = .ok (.istore 4, 2) := by decide +kernel
theorem d_RC_writeBody_55 : decode b_RC_writeBody 55 = .ok (.aload_n 0, 1) := by decide +kernel
theorem d_RC_writeBody_56 : decode b_RC_writeBody 56 = .ok (.iload_n 3, 1) := by decide +kernel
theorem d_RC_writeBody_57 : decode b_RC_writeBody 57 = .ok (.iload_n 2, 1) := by decide +kernel
theorem d_RC_writeBody_58 : decode b_RC_writeBody 58 = .ok (.invokevirtual 63, 3) := by decide +kernel
theorem d_RC_writeBody_61 : decode b_RC_writeBody 61 = .ok (.ifCond .le 10, 3) := by decide +kernel
theorem d_RC_writeBody_64 : decode b_RC_writeBody 64 = .ok (.aload_n 0, 1) := by decide +kernel
theorem d_RC_writeBody_65 : decode b_RC_writeBody 65 = .ok (.iload_n 3, 1) := by decide +kernel
theorem d_RC_writeBody_66 : decode b_RC_writeBody 66 = .ok (.iload 4, 2) := by decide +kernel
theorem d_RC_writeBody_68 : decode b_RC_writeBody 68 = .ok (.invokevirtual 74, 3) := by decide +kernel
theorem d_RC_writeBody_71 : decode b_RC_writeBody 71 = .ok (.iload 4, 2) := by decide +kernel
theorem d_RC_writeBody_73 : decode b_RC_writeBody 73 = .ok (.invokestatic 78, 3) := by decide +kernel
theorem d_RC_writeBody_76 : decode b_RC_writeBody 76 = .ok (.ifCond .eq 28, 3) := by decide +kernel
theorem d_RC_writeBody_79 : decode b_RC_writeBody 79 = .ok (.aload_n 0, 1) := by decide +kernel
theorem d_RC_writeBody_80 : decode b_RC_writeBody 80 = .ok (.getfield 20, 3) := by decide +kernel
theorem d_RC_writeBody_83 : decode b_RC_writeBody 83 = .ok (.aload_n 0, 1) := by decide +kernel
theorem d_RC_writeBody_84 : decode b_RC_writeBody 84 = .ok (.getfield 71, 3) := by decide +kernel
theorem d_RC_writeBody_87 : decode b_RC_writeBody 87 = .ok (.iload_n 3, 1) := by decide +kernel
theorem d_RC_writeBody_88 : decode b_RC_writeBody 88 = .ok (.invokevirtual 82, 3) := by decide +kernel
theorem d_RC_writeBody_91 : decode b_RC_writeBody 91 = .ok (.aload_n 0, 1) := by decide +kernel
theorem d_RC_writeBody_92 : decode b_RC_writeBody 92 = .ok (.dup, 1) := by decide +kernel
theorem d_RC_writeBody_93 : decode b_RC_writeBody 93 = .ok (.getfield 71, 3) := by decide +kernel
theorem d_RC_writeBody_96 : decode b_RC_writeBody 96 = .ok (.iconst 1, 1) := by decide +kernel
theorem d_RC_writeBody_97 : decode b_RC_writeBody 97 = .ok (.iadd, 1) := by decide +kernel
theorem d_RC_writeBody_98 : decode b_RC_writeBody 98 = .ok (.putfield 71, 3) := by decide +kernel
theorem d_RC_writeBody_101 : decode b_RC_writeBody 101 = .ok (.goto 20, 3) := by decide +kernel
theorem d_RC_writeBody_104 : decode b_RC_writeBody 104 = .ok (.iload 4, 2) := by decide +kernel
theorem d_RC_writeBody_106 : decode b_RC_writeBody 106 = .ok (.bipush 11, 2) := by decide +kernel
theorem d_RC_writeBody_108 : decode b_RC_writeBody 108 = .ok (.if_icmp .ne 13, 3) := by decide +kernel
theorem d_RC_writeBody_111 : decode b_RC_writeBody 111 = .ok (.aload_n 0, 1) := by decide +kernel
theorem d_RC_writeBody_112 : decode b_RC_writeBody 112 = .ok (.dup, 1) := by decide +kernel
theorem d_RC_writeBody_113 : decode b_RC_writeBody 113 = .ok (.getfield 71, 3) := by decide +kernel
theorem d_RC_writeBody_116 : decode b_RC_writeBody 116 = .ok (.iconst 1, 1) := by decide +kernel
theorem d_RC_writeBody_117 : decode b_RC_writeBody 117 = .ok (.isub, 1) := by decide +kernel
theorem d_RC_writeBody_118 : decode b_RC_writeBody 118 = .ok (.putfield 71, 3) := by decide +kernel
theorem d_RC_writeBody_121 : decode b_RC_writeBody 121 = .ok (.iinc 3 1, 3) := by decide +kernel
theorem d_RC_writeBody_124 : decode b_RC_writeBody 124 = .ok (.goto (-88), 3) := by decide +kernel
theorem d_RC_writeBody_127 : decode b_RC_writeBody 127 = .ok (.return_, 1) := by decide +kernel
theorem d_RC_make_0 : decode b_RC_make 0 = .ok (.aload_n 0, 1) := by decide +kernel
theorem d_RC_make_1 : decode b_RC_make 1 = .ok (.invokevirtual 49, 3) := by decide +kernel
theorem d_RC_make_4 : decode b_RC_make 4 = .ok (.aload_n 0, 1) := by decide +kernel
theorem d_RC_make_5 : decode b_RC_make 5 = .ok (.iconst 0, 1) := by decide +kernel
theorem d_RC_make_6 : decode b_RC_make 6 = .ok (.putfield 27, 3) := by decide +kernel
theorem d_RC_make_9 : decode b_RC_make 9 = .ok (.iconst 0, 1) := by decide +kernel
theorem d_RC_make_10 : decode b_RC_make 10 = .ok (.istore_n 1, 1) := by decide +kernel
theorem d_RC_make_11 : decode b_RC_make 11 = .ok (.iload_n 1, 1) := by decide +kernel
theorem d_RC_make_12 : decode b_RC_make 12 = .ok (.bipush 8, 2) := by decide +kernel
theorem d_RC_make_14 : decode b_RC_make 14 = .ok (.if_icmp .ge 28, 3) := by decide +kernel
theorem d_RC_make_17 : decode b_RC_make 17 = .ok (.iload_n 1, 1) := by decide +kernel
theorem d_RC_make_18 : decode b_RC_make 18 = .ok (.aload_n 0, 1) := by decide +kernel
theorem d_RC_make_19 : decode b_RC_make 19 = .ok (.getfield 23, 3) := by decide +kernel
theorem d_RC_make_22 : decode b_RC_make 22 = .ok (.getfield 41, 3) := by decide +kernel
theorem d_RC_make_25 : decode b_RC_make 25 = .ok (.invokevirtual 52, 3) := by decide +kernel
theorem d_RC_make_28 : decode b_RC_make 28 = .ok (.if_icmp .ge 14, 3) := by decide +kernel
theorem d_RC_make_31 : decode b_RC_make 31 = .ok (.aload_n 0, 1) := by decide +kernel
theorem d_RC_make_32 : decode b_RC_make 32 = .ok (.iload_n 1, 1) := by decide +kernel
theorem d_RC_make_33 : decode b_RC_make 33 = .ok (.invokevirtual 56, 3) := by decide +kernel
theorem d_RC_make_36 : decode b_RC_make 36 = .ok (.iinc 1 1, 3) := by decide +kernel
theorem d_RC_make_39 : decode b_RC_make 39 = .ok (.goto (-28), 3) := by decide +kernel
theorem d_RC_make_42 : decode b_RC_make 42 = .ok (.return_, 1) := by decide +kernel
theorem d_Store_prepare_0 : decode b_Store_prepare 0 = .ok (.aload_n 0, 1) := by decide +kernel
theorem d_Store_prepare_1 : decode b_Store_prepare 1 = .ok (.getfield 14, 3) := by decide +kernel
theorem d_Store_prepare_4 : decode b_Store_prepare 4 = .ok (.invokevirtual 26, 3) := by decide +kernel
theorem d_Store_prepare_7 : decode b_Store_prepare 7 = .ok (.aload_n 0, 1) := by decide +kernel
theorem d_Store_prepare_8 : decode b_Store_prepare 8 = .ok (.aload_n 1, 1) := by decide +kernel
theorem d_Store_prepare_9 : decode b_Store_prepare 9 = .ok (.getfield 29, 3) := by decide +kernel
theorem d_Store_prepare_12 : decode b_Store_prepare 12 = .ok (.putfield 35, 3) := by decide +kernel
theorem d_Store_prepare_15 : decode b_Store_prepare 15 = .ok (.aload_n 0, 1) := by decide +kernel
theorem d_Store_prepare_16 : decode b_Store_prepare 16 = .ok (.aload_n 1, 1) := by decide +kernel
theorem d_Store_prepare_17 : decode b_Store_prepare 17 = .ok (.getfield 38, 3) := by decide +kernel
theorem d_Store_prepare_20 : decode b_Store_prepare 20 = .ok (.putfield 41, 3) := by decide +kernel
theorem d_Store_prepare_23 : decode b_Store_prepare 23 = .ok (.iconst 0, 1) := by decide +kernel
theorem d_Store_prepare_24 : decode b_Store_prepare 24 = .ok (.istore_n 3, 1) := by decide +kernel
theorem d_Store_prepare_25 : decode b_Store_prepare 25 = .ok (.iload_n 3, 1) := by decide +kernel
theorem d_Store_prepare_26 : decode b_Store_prepare 26 = .ok (.iconst 4, 1) := by decide +kernel
theorem d_Store_prepare_27 : decode b_Store_prepare 27 = .ok (.if_icmp .ge 26, 3) := by decide +kernel
theorem d_Store_prepare_30 : decode b_Store_prepare 30 = .ok (.aload_n 0, 1) := by decide +kernel
theorem d_Store_prepare_31 : decode b_Store_prepare 31 = .ok (.getfield 23, 3) := by decide +kernel
theorem d_Store_prepare_34 : decode b_Store_prepare 34 = .ok (.iload_n 3, 1) := by decide +kernel
theorem d_Store_prepare_35 : decode b_Store_prepare 35 = .ok (.aload_n 1, 1) := by decide +kernel
theorem d_Store_prepare_36 : decode b_Store_prepare 36 = .ok (.getfield 42, 3) := by decide +kernel
theorem d_Store_prepare_39 : decode b_Store_prepare 39 = .ok (.iload_n 3, 1) := by decide +kernel
theorem d_Store_prepare_40 : decode b_Store_prepare 40 = .ok (.iconst 1, 1) := by decide +kernel
theorem d_Store_prepare_41 : decode b_Store_prepare 41 = .ok (.invokevirtual 45, 3) := by decide +kernel
theorem d_Store_prepare_44 : decode b_Store_prepare 44 = .ok (.invokevirtual 51, 3) := by decide +kernel
theorem d_Store_prepare_47 : decode b_Store_prepare 47 = .ok (.iinc 3 1, 3) := by decide +kernel
theorem d_Store_prepare_50 : decode b_Store_prepare 50 = .ok (.goto (-25), 3) := by decide +kernel
theorem d_Store_prepare_53 : decode b_Store_prepare 53 = .ok (.iconst 0, 1) := by decide +kernel
theorem d_Store_prepare_54 : decode b_Store_prepare 54 = .ok (.istore_n 3, 1) := by decide +kernel
theorem d_Store_prepare_55 : decode b_Store_prepare 55 = .ok (.iload_n 3, 1) := by decide +kernel
theorem d_Store_prepare_56 : decode b_Store_prepare 56 = .ok (.iconst 4, 1) := by decide +kernel
theorem d_Store_prepare_57 : decode b_Store_prepare 57 = .ok (.if_icmp .ge 90, 3) := by decide +kernel
theorem d_Store_prepare_60 : decode b_Store_prepare 60 = .ok (.iload_n 3, 1) := by decide +kernel
theorem d_Store_prepare_61 : decode b_Store_prepare 61 = .ok (.aload_n 1, 1) := by decide +kernel
theorem d_Store_prepare_62 : decode b_Store_prepare 62 = .ok (.getfield 55, 3) := by decide +kernel
theorem d_Store_prepare_65 : decode b_Store_prepare 65 = .ok (.invokevirtual 58, 3) := by decide +kernel
theorem d_Store_prepare_68 : decode b_Store_prepare 68 = .ok (.if_icmp .ge 79, 3) := by decide +kernel
theorem d_Store_prepare_71 : decode b_Store_prepare 71 = .ok (.aload_n 1, 1) := by decide +kernel
theorem d_Store_prepare_72 : decode b_Store_prepare 72 = .ok (.getfield 55, 3) := by decide +kernel
theorem d_Store_prepare_75 : decode b_Store_prepare 75 = .ok (.iload_n 3, 1) := by decide +kernel
theorem d_Store_prepare_76 : decode b_Store_prepare 76 = .ok (.iconst 3, 1) := by decide +kernel
theorem d_Store_prepare_77 : decode b_Store_prepare 77 = .ok (.invokevirtual 45, 3) := by decide +kernel
theorem d_Store_prepare_80 : decode b_Store_prepare 80 = .ok (.istore 4, 2) := by decide +kernel
theorem d_Store_prepare_82 : decode b_Store_prepare 82 = .ok (.iconst 0, 1) := by decide +kernel
theorem d_Store_prepare_83 : decode b_Store_prepare 83 = .ok (.istore 5, 2) := by decide +kernel
theorem d_Store_prepare_85 : decode b_Store_prepare 85 = .ok (.iload 5, 2) := by decide +kernel
theorem d_Store_prepare_87 : decode b_Store_prepare 87 = .ok (.sipush 240, 3) := by decide +kernel
theorem d_Store_prepare_90 : decode b_Store_prepare 90 = .ok (.if_icmp .ge 51, 3) := by decide +kernel
theorem d_Store_prepare_93 : decode b_Store_prepare 93 = .ok (.iload 5, 2) := by decide +kernel
theorem d_Store_prepare_95 : decode b_Store_prepare 95 = .ok (.iload 4, 2) := by decide +kernel
theorem d_Store_prepare_97 : decode b_Store_prepare 97 = .ok (.if_icmp .ge 44, 3) := by decide +kernel
theorem d_Store_prepare_100 : decode b_Store_prepare 100 = .ok (.aload_n 0, 1) := by decide +kernel
theorem d_Store_prepare_101 : decode b_Store_prepare 101 = .ok (.getfield 14, 3) := by decide +kernel
theorem d_Store_prepare_104 : decode b_Store_prepare 104 = .ok (.aload_n 1, 1) := by decide +kernel
theorem d_Store_prepare_105 : decode b_Store_prepare 105 = .ok (.getfield 55, 3) := by decide +kernel
theorem d_Store_prepare_108 : decode b_Store_prepare 108 = .ok (.iload_n 3, 1) := by decide +kernel
theorem d_Store_prepare_109 : decode b_Store_prepare 109 = .ok (.iconst 1, 1) := by decide +kernel
theorem d_Store_prepare_110 : decode b_Store_prepare 110 = .ok (.invokevirtual 45, 3) := by decide +kernel
theorem d_Store_prepare_113 : decode b_Store_prepare 113 = .ok (.iload 5, 2) := by decide +kernel
theorem d_Store_prepare_115 : decode b_Store_prepare 115 = .ok (.iadd, 1) := by decide +kernel
theorem d_Store_prepare_116 : decode b_Store_prepare 116 = .ok (.aload_n 2, 1) := by decide +kernel
theorem d_Store_prepare_117 : decode b_Store_prepare 117 = .ok (.aload_n 1, 1) := by decide +kernel
theorem d_Store_prepare_118 : decode b_Store_prepare 118 = .ok (.getfield 55, 3) := by decide +kernel
theorem d_Store_prepare_121 : decode b_Store_prepare 121 = .ok (.iload_n 3, 1) := by decide +kernel
theorem d_Store_prepare_122 : decode b_Store_prepare 122 = .ok (.iconst 2, 1) := by decide +kernel
theorem d_Store_prepare_123 : decode b_Store_prepare 123 = .ok (.invokevirtual 45, 3) := by decide +kernel
theorem d_Store_prepare_126 : decode b_Store_prepare 126 = .ok (.iload 5, 2) := by decide +kernel
theorem d_Store_prepare_128 : decode b_Store_prepare 128 = .ok (.iadd, 1) := by decide +kernel
theorem d_Store_prepare_129 : decode b_Store_prepare 129 = .ok (.invokevirtual 62, 3) := by decide +kernel
theorem d_Store_prepare_132 : decode b_Store_prepare 132 = .ok (.invokevirtual 51, 3) := by decide +kernel
theorem d_Store_prepare_135 : decode b_Store_prepare 135 = .ok (.iinc 5 1, 3) := by decide +kernel
theorem d_Store_prepare_138 : decode b_Store_prepare 138 = .ok (.goto (-53), 3) := by decide +kernel
theorem d_Store_prepare_141 : decode b_Store_prepare 141 = .ok (.iinc 3 1, 3) := by decide +kernel
theorem d_Store_prepare_144 : decode b_Store_prepare 144 = .ok (.goto (-89), 3) := by decide +kernel
theorem d_Store_prepare_147 : decode b_Store_prepare 147 = .ok (.return_, 1) := by decide +kernel
theorem d_Store_compute_0 : decode b_Store_compute 0 = .ok (.aload_n 0, 1) := by decide +kernel
theorem d_Store_compute_1 : decode b_Store_compute 1 = .ok (.getfield 20, 3) := by decide +kernel
theorem d_Store_compute_4 : decode b_Store_compute 4 = .ok (.iload_n 2, 1) := by decide +kernel
theorem d_Store_compute_5 : decode b_Store_compute 5 = .ok (.iconst 1, 1) := by decide +kernel
theorem d_Store_compute_6 : decode b_Store_compute 6 = .ok (.isub, 1) := by decide +kernel
theorem d_Store_compute_7 : decode b_Store_compute 7 = .ok (.invokevirtual 88, 3) := by decide +kernel
theorem d_Store_compute_10 : decode b_Store_compute 10 = .ok (.istore_n 3, 1) := by decide +kernel
theorem d_Store_compute_11 : decode b_Store_compute 11 = .ok (.iload_n 1, 1) := by decide +kernel
theorem d_Store_compute_12 : decode b_Store_compute 12 = .ok (.invokestatic 97, 3) := by decide +kernel
theorem d_Store_compute_15 : decode b_Store_compute 15 = .ok (.iconst 1, 1) := by decide +kernel
theorem d_Store_compute_16 : decode b_Store_compute 16 = .ok (.if_icmp .ne 20, 3) := by decide +kernel
theorem d_Store_compute_19 : decode b_Store_compute 19 = .ok (.aload_n 0, 1) := by decide +kernel
theorem d_Store_compute_20 : decode b_Store_compute 20 = .ok (.getfield 20, 3) := by decide +kernel
theorem d_Store_compute_23 : decode b_Store_compute 23 = .ok (.iload_n 2, 1) := by decide +kernel
theorem d_Store_compute_24 : decode b_Store_compute 24 = .ok (.iconst 1, 1) := by decide +kernel
theorem d_Store_compute_25 : decode b_Store_compute 25 = .ok (.isub, 1) := by decide +kernel
theorem d_Store_compute_26 : decode b_Store_compute 26 = .ok (.iload_n 1, 1) := by decide +kernel
theorem d_Store_compute_27 : decode b_Store_compute 27 = .ok (.iload_n 3, 1) := by decide +kernel
theorem d_Store_compute_28 : decode b_Store_compute 28 = .ok (.invokestatic 100, 3) := by decide +kernel
theorem d_Store_compute_31 : decode b_Store_compute 31 = .ok (.invokevirtual 51, 3) := by decide +kernel
theorem d_Store_compute_34 : decode b_Store_compute 34 = .ok (.iconst 0, 1) := by decide +kernel
theorem d_Store_compute_35 : decode b_Store_compute 35 = .ok (.ireturn, 1) := by decide +kernel
theorem d_Store_compute_36 : decode b_Store_compute 36 = .ok (.aload_n 0, 1) := by decide +kernel
theorem d_Store_compute_37 : decode b_Store_compute 37 = .ok (.getfield 20, 3) := by decide +kernel
theorem d_Store_compute_40 : decode b_Store_compute 40 = .ok (.iload_n 2, 1) := by decide +kernel
theorem d_Store_compute_41 : decode b_Store_compute 41 = .ok (.iconst 2, 1) := by decide +kernel
theorem d_Store_compute_42 : decode b_Store_compute 42 = .ok (.isub, 1) := by decide +kernel
theorem d_Store_compute_43 : decode b_Store_compute 43 = .ok (.invokevirtual 88, 3) := by decide +kernel
theorem d_Store_compute_46 : decode b_Store_compute 46 = .ok (.istore 4, 2) := by decide +kernel
theorem d_Store_compute_48 : decode b_Store_compute 48 = .ok (.iload_n 1, 1) := by decide +kernel
theorem d_Store_compute_49 : decode b_Store_compute 49 = .ok (.iload 4, 2) := by decide +kernel
theorem d_Store_compute_51 : decode b_Store_compute 51 = .ok (.iload_n 3, 1) := by decide +kernel
theorem d_Store_compute_52 : decode b_Store_compute 52 = .ok (.invokestatic 103, 3) := by decide +kernel
theorem d_Store_compute_55 : decode b_Store_compute 55 = .ok (.istore 5, 2) := by decide +kernel
theorem d_Store_compute_57 : decode b_Store_compute 57 = .ok (.iload 5, 2) := by decide +kernel
theorem d_Store_compute_59 : decode b_Store_compute 59 = .ok (.ifCond .ne 20, 3) := by decide +kernel
theorem d_Store_compute_62 : decode b_Store_compute 62 = .ok (.aload_n 0, 1) := by decide +kernel
theorem d_Store_compute_63 : decode b_Store_compute 63 = .ok (.getfield 20, 3) := by decide +kernel
theorem d_Store_compute_66 : decode b_Store_compute 66 = .ok (.iload_n 2, 1) := by decide +kernel
theorem d_Store_compute_67 : decode b_Store_compute 67 = .ok (.iconst 2, 1) := by decide +kernel
theorem d_Store_compute_68 : decode b_Store_compute 68 = .ok (.isub, 1) := by decide +kernel
theorem d_Store_compute_69 : decode b_Store_compute 69 = .ok (.iload_n 1, 1) := by decide +kernel
theorem d_Store_compute_70 : decode b_Store_compute 70 = .ok (.iload 4, 2) := by decide +kernel
theorem d_Store_compute_72 : decode b_Store_compute 72 = .ok (.iload_n 3, 1) := by decide +kernel
theorem d_Store_compute_73 : decode b_Store_compute 73 = .ok (.invokestatic 106, 3) := by decide +kernel
theorem d_Store_compute_76 : decode b_Store_compute 76 = .ok (.invokevirtual 51, 3) := by decide +kernel
theorem d_Store_compute_79 : decode b_Store_compute 79 = .ok (.iload 5, 2) := by decide +kernel
theorem d_Store_compute_81 : decode b_Store_compute 81 = .ok (.ireturn, 1) := by decide +kernel
theorem d_Store_write_0 : decode b_Store_write 0 = .ok (.iconst 0, 1) := by decide +kernel
theorem d_Store_write_1 : decode b_Store_write 1 = .ok (.istore 4, 2) := by decide +kernel
theorem d_Store_write_3 : decode b_Store_write 3 = .ok (.iload 4, 2) := by decide +kernel
theorem d_Store_write_5 : decode b_Store_write 5 = .ok (.iconst 4, 1) := by decide +kernel
theorem d_Store_write_6 : decode b_Store_write 6 = .ok (.if_icmp .ge 37, 3) := by decide +kernel
theorem d_Store_write_9 : decode b_Store_write 9 = .ok (.iload 4, 2) := by decide +kernel
theorem d_Store_write_11 : decode b_Store_write 11 = .ok (.iload_n 2, 1) := by decide +kernel
theorem d_Store_write_12 : decode b_Store_write 12 = .ok (.if_icmp .ge 31, 3) := by decide +kernel
theorem d_Store_write_15 : decode b_Store_write 15 = .ok (.aload_n 0, 1) := by decide +kernel
theorem d_Store_write_16 : decode b_Store_write 16 = .ok (.getfield 14, 3) := by decide +kernel
theorem d_Store_write_19 : decode b_Store_write 19 = .ok (.iload_n 1, 1) := by decide +kernel
theorem d_Store_write_20 : decode b_Store_write 20 = .ok (.iload 4, 2) := by decide +kernel
theorem d_Store_write_22 : decode b_Store_write 22 = .ok (.iadd, 1) := by decide +kernel
theorem d_Store_write_23 : decode b_Store_write 23 = .ok (.iload_n 3, 1) := by decide +kernel
theorem d_Store_write_24 : decode b_Store_write 24 = .ok (.bipush 8, 2) := by decide +kernel
theorem d_Store_write_26 : decode b_Store_write 26 = .ok (.iload 4, 2) := by decide +kernel
theorem d_Store_write_28 : decode b_Store_write 28 = .ok (.imul, 1) := by decide +kernel
theorem d_Store_write_29 : decode b_Store_write 29 = .ok (.iushr, 1) := by decide +kernel
theorem d_Store_write_30 : decode b_Store_write 30 = .ok (.sipush 255, 3) := by decide +kernel
theorem d_Store_write_33 : decode b_Store_write 33 = .ok (.iand, 1) := by decide +kernel
theorem d_Store_write_34 : decode b_Store_write 34 = .ok (.invokevirtual 51, 3) := by decide +kernel
theorem d_Store_write_37 : decode b_Store_write 37 = .ok (.iinc 4 1, 3) := by decide +kernel
theorem d_Store_write_40 : decode b_Store_write 40 = .ok (.goto (-37), 3) := by decide +kernel
theorem d_Store_write_43 : decode b_Store_write 43 = .ok (.return_, 1) := by decide +kernel
theorem d_Store_read_0 : decode b_Store_read 0 = .ok (.iconst 0, 1) := by decide +kernel
theorem d_Store_read_1 : decode b_Store_read 1 = .ok (.istore_n 3, 1) := by decide +kernel
theorem d_Store_read_2 : decode b_Store_read 2 = .ok (.iconst 0, 1) := by decide +kernel
theorem d_Store_read_3 : decode b_Store_read 3 = .ok (.istore 4, 2) := by decide +kernel
theorem d_Store_read_5 : decode b_Store_read 5 = .ok (.iload 4, 2) := by decide +kernel
theorem d_Store_read_7 : decode b_Store_read 7 = .ok (.iconst 4, 1) := by decide +kernel
theorem d_Store_read_8 : decode b_Store_read 8 = .ok (.if_icmp .ge 35, 3) := by decide +kernel
theorem d_Store_read_11 : decode b_Store_read 11 = .ok (.iload 4, 2) := by decide +kernel
theorem d_Store_read_13 : decode b_Store_read 13 = .ok (.iload_n 2, 1) := by decide +kernel
theorem d_Store_read_14 : decode b_Store_read 14 = .ok (.if_icmp .ge 29, 3) := by decide +kernel
theorem d_Store_read_17 : decode b_Store_read 17 = .ok (.iload_n 3, 1) := by decide +kernel
theorem d_Store_read_18 : decode b_Store_read 18 = .ok (.aload_n 0, 1) := by decide +kernel
theorem d_Store_read_19 : decode b_Store_read 19 = .ok (.getfield 14, 3) := by decide +kernel
theorem d_Store_read_22 : decode b_Store_read 22 = .ok (.iload_n 1, 1) := by decide +kernel
theorem d_Store_read_23 : decode b_Store_read 23 = .ok (.iload 4, 2) := by decide +kernel
theorem d_Store_read_25 : decode b_Store_read 25 = .ok (.iadd, 1) := by decide +kernel
theorem d_Store_read_26 : decode b_Store_read 26 = .ok (.invokevirtual 88, 3) := by decide +kernel
theorem d_Store_read_29 : decode b_Store_read 29 = .ok (.bipush 8, 2) := by decide +kernel
theorem d_Store_read_31 : decode b_Store_read 31 = .ok (.iload 4, 2) := by decide +kernel
theorem d_Store_read_33 : decode b_Store_read 33 = .ok (.imul, 1) := by decide +kernel
theorem d_Store_read_34 : decode b_Store_read 34 = .ok (.ishl, 1) := by decide +kernel
theorem d_Store_read_35 : decode b_Store_read 35 = .ok (.ior, 1) := by decide +kernel
theorem d_Store_read_36 : decode b_Store_read 36 = .ok (.istore_n 3, 1) := by decide +kernel
theorem d_Store_read_37 : decode b_Store_read 37 = .ok (.iinc 4 1, 3) := by decide +kernel
theorem d_Store_read_40 : decode b_Store_read 40 = .ok (.goto (-35), 3) := by decide +kernel
theorem d_Store_read_43 : decode b_Store_read 43 = .ok (.iload_n 3, 1) := by decide +kernel
theorem d_Store_read_44 : decode b_Store_read 44 = .ok (.ireturn, 1) := by decide +kernel
theorem d_Store_signed_0 : decode b_Store_signed 0 = .ok (.iload_n 0, 1) := by decide +kernel
theorem d_Store_signed_1 : decode b_Store_signed 1 = .ok (.bipush 44, 2) := by decide +kernel
theorem d_Store_signed_3 : decode b_Store_signed 3 = .ok (.if_icmp .ne 6, 3) := by decide +kernel
theorem d_Store_signed_6 : decode b_Store_signed 6 = .ok (.iload_n 1, 1) := by decide +kernel
theorem d_Store_signed_7 : decode b_Store_signed 7 = .ok (.i2b, 1) := by decide +kernel
theorem d_Store_signed_8 : decode b_Store_signed 8 = .ok (.ireturn, 1) := by decide +kernel
theorem d_Store_signed_9 : decode b_Store_signed 9 = .ok (.iload_n 0, 1) := by decide +kernel
theorem d_Store_signed_10 : decode b_Store_signed 10 = .ok (.bipush 46, 2) := by decide +kernel
theorem d_Store_signed_12 : decode b_Store_signed 12 = .ok (.if_icmp .ne 8, 3) := by decide +kernel
theorem d_Store_signed_15 : decode b_Store_signed 15 = .ok (.iload_n 1, 1) := by decide +kernel
theorem d_Store_signed_16 : decode b_Store_signed 16 = .ok (.i2s, 1) := by decide +kernel
theorem d_Store_signed_17 : decode b_Store_signed 17 = .ok (.goto 4, 3) := by decide +kernel
theorem d_Store_signed_20 : decode b_Store_signed 20 = .ok (.iload_n 1, 1) := by decide +kernel
theorem d_Store_signed_21 : decode b_Store_signed 21 = .ok (.ireturn, 1) := by decide +kernel
theorem d_Store_access_0 : decode b_Store_access 0 = .ok (.iload_n 1, 1) := by decide +kernel
theorem d_Store_access_1 : decode b_Store_access 1 = .ok (.invokestatic 109, 3) := by decide +kernel
theorem d_Store_access_4 : decode b_Store_access 4 = .ok (.istore 4, 2) := by decide +kernel
theorem d_Store_access_6 : decode b_Store_access 6 = .ok (.iload_n 3, 1) := by decide +kernel
theorem d_Store_access_7 : decode b_Store_access 7 = .ok (.iload_n 1, 1) := by decide +kernel
theorem d_Store_access_8 : decode b_Store_access 8 = .ok (.invokestatic 97, 3) := by decide +kernel
theorem d_Store_access_11 : decode b_Store_access 11 = .ok (.isub, 1) := by decide +kernel
theorem d_Store_access_12 : decode b_Store_access 12 = .ok (.istore 5, 2) := by decide +kernel
theorem d_Store_access_14 : decode b_Store_access 14 = .ok (.aload_n 0, 1) := by decide +kernel
theorem d_Store_access_15 : decode b_Store_access 15 = .ok (.getfield 20, 3) := by decide +kernel
theorem d_Store_access_18 : decode b_Store_access 18 = .ok (.iload 5, 2) := by decide +kernel
theorem d_Store_access_20 : decode b_Store_access 20 = .ok (.invokevirtual 88, 3) := by decide +kernel
theorem d_Store_access_23 : decode b_Store_access 23 = .ok (.i2l, 1) := by decide +kernel
theorem d_Store_access_24 : decode b_Store_access 24 = .ok (.ldc2_w 112, 3) := by decide +kernel
theorem d_Store_access_27 : decode b_Store_access 27 = .ok (.land, 1) := by decide +kernel
theorem d_Store_access_28 : decode b_Store_access 28 = .ok (.iload_n 2, 1) := by decide +kernel
theorem d_Store_access_29 : decode b_Store_access 29 = .ok (.i2l, 1) := by decide +kernel
theorem d_Store_access_30 : decode b_Store_access 30 = .ok (.ldc2_w 112, 3) := by decide +kernel
theorem d_Store_access_33 : decode b_Store_access 33 = .ok (.land, 1) := by decide +kernel
theorem d_Store_access_34 : decode b_Store_access 34 = .ok (.ladd, 1) := by decide +kernel
theorem d_Store_access_35 : decode b_Store_access 35 = .ok (.lstore 6, 2) := by decide +kernel
theorem d_Store_access_37 : decode b_Store_access 37 = .ok (.lload 6, 2) := by decide +kernel
theorem d_Store_access_39 : decode b_Store_access 39 = .ok (.iload 4, 2) := by decide +kernel
theorem d_Store_access_41 : decode b_Store_access 41 = .ok (.i2l, 1) := by decide +kernel
theorem d_Store_access_42 : decode b_Store_access 42 = .ok (.ladd, 1) := by decide +kernel
theorem d_Store_access_43 : decode b_Store_access 43 = .ok (.aload_n 0, 1) := by decide +kernel
theorem d_Store_access_44 : decode b_Store_access 44 = .ok (.getfield 35, 3) := by decide +kernel
theorem d_Store_access_47 : decode b_Store_access 47 = .ok (.bipush 64, 2) := by decide +kernel
theorem d_Store_access_49 : decode b_Store_access 49 = .ok (.imul, 1) := by decide +kernel
theorem d_Store_access_50 : decode b_Store_access 50 = .ok (.i2l, 1) := by decide +kernel
theorem d_Store_access_51 : decode b_Store_access 51 = .ok (.lcmp, 1) := by decide +kernel
theorem d_Store_access_52 : decode b_Store_access 52 = .ok (.ifCond .le 5, 3) := by decide +kernel
theorem d_Store_access_55 : decode b_Store_access 55 = .ok (.iconst 5, 1) := by decide +kernel
theorem d_Store_access_56 : decode b_Store_access 56 = .ok (.ireturn, 1) := by decide +kernel
theorem d_Store_access_57 : decode b_Store_access 57 = .ok (.lload 6, 2) := by decide +kernel
theorem d_Store_access_59 : decode b_Store_access 59 = .ok (.l2i, 1) := by decide +kernel
theorem d_Store_access_60 : decode b_Store_access 60 = .ok (.istore 8, 2) := by decide +kernel
theorem d_Store_access_62 : decode b_Store_access 62 = .ok (.iload_n 1, 1) := by decide +kernel
theorem d_Store_access_63 : decode b_Store_access 63 = .ok (.invokestatic 114, 3) := by decide +kernel
theorem d_Store_access_66 : decode b_Store_access 66 = .ok (.ifCond .eq 24, 3) := by decide +kernel
theorem d_Store_access_69 : decode b_Store_access 69 = .ok (.aload_n 0, 1) := by decide +kernel
theorem d_Store_access_70 : decode b_Store_access 70 = .ok (.iload 8, 2) := by decide +kernel
theorem d_Store_access_72 : decode b_Store_access 72 = .ok (.iload 4, 2) := by decide +kernel
theorem d_Store_access_74 : decode b_Store_access 74 = .ok (.aload_n 0, 1) := by decide +kernel
theorem d_Store_access_75 : decode b_Store_access 75 = .ok (.getfield 20, 3) := by decide +kernel
theorem d_Store_access_78 : decode b_Store_access 78 = .ok (.iload_n 3, 1) := by decide +kernel
theorem d_Store_access_79 : decode b_Store_access 79 = .ok (.iconst 1, 1) := by decide +kernel
theorem d_Store_access_80 : decode b_Store_access 80 = .ok (.isub, 1) := by decide +kernel
theorem d_Store_access_81 : decode b_Store_access 81 = .ok (.invokevirtual 88, 3) := by decide +kernel
theorem d_Store_access_84 : decode b_Store_access 84 = .ok (.invokevirtual 117, 3) := by decide +kernel
theorem d_Store_access_87 : decode b_Store_access 87 = .ok (.goto 24, 3) := by decide +kernel
theorem d_Store_access_90 : decode b_Store_access 90 = .ok (.aload_n 0, 1) := by decide +kernel
theorem d_Store_access_91 : decode b_Store_access 91 = .ok (.getfield 20, 3) := by decide +kernel
theorem d_Store_access_94 : decode b_Store_access 94 = .ok (.iload 5, 2) := by decide +kernel
theorem d_Store_access_96 : decode b_Store_access 96 = .ok (.iload_n 1, 1) := by decide +kernel
theorem d_Store_access_97 : decode b_Store_access 97 = .ok (.aload_n 0, 1) := by decide +kernel
theorem d_Store_access_98 : decode b_Store_access 98 = .ok (.iload 8, 2) := by decide +kernel
theorem d_Store_access_100 : decode b_Store_access 100 = .ok (.iload 4, 2) := by decide +kernel
theorem d_Store_access_102 : decode b_Store_access 102 = .ok (.invokevirtual 121, 3) := by decide +kernel
theorem d_Store_access_105 : decode b_Store_access 105 = .ok (.invokestatic 124, 3) := by decide +kernel
theorem d_Store_access_108 : decode b_Store_access 108 = .ok (.invokevirtual 51, 3) := by decide +kernel
theorem d_Store_access_111 : decode b_Store_access 111 = .ok (.iconst 0, 1) := by decide +kernel
theorem d_Store_access_112 : decode b_Store_access 112 = .ok (.ireturn, 1) := by decide +kernel
theorem d_Store_growBy_0 : decode b_Store_growBy 0 = .ok (.iload_n 1, 1) := by decide +kernel
theorem d_Store_growBy_1 : decode b_Store_growBy 1 = .ok (.aload_n 0, 1) := by decide +kernel
theorem d_Store_growBy_2 : decode b_Store_growBy 2 = .ok (.getfield 41, 3) := by decide +kernel
theorem d_Store_growBy_5 : decode b_Store_growBy 5 = .ok (.aload_n 0, 1) := by decide +kernel
theorem d_Store_growBy_6 : decode b_Store_growBy 6 = .ok (.getfield 35, 3) := by decide +kernel
theorem d_Store_growBy_9 : decode b_Store_growBy 9 = .ok (.isub, 1) := by decide +kernel
theorem d_Store_growBy_10 : decode b_Store_growBy 10 = .ok (.invokestatic 93, 3) := by decide +kernel
theorem d_Store_growBy_13 : decode b_Store_growBy 13 = .ok (.ifCond .eq 5, 3) := by decide +kernel
theorem d_Store_growBy_16 : decode b_Store_growBy 16 = .ok (.iconst (-1), 1) := by decide +kernel
theorem d_Store_growBy_17 : decode b_Store_growBy 17 = .ok (.ireturn, 1) := by decide +kernel
theorem d_Store_growBy_18 : decode b_Store_growBy 18 = .ok (.aload_n 0, 1) := by decide +kernel
theorem d_Store_growBy_19 : decode b_Store_growBy 19 = .ok (.dup, 1) := by decide +kernel
theorem d_Store_growBy_20 : decode b_Store_growBy 20 = .ok (.getfield 35, 3) := by decide +kernel
theorem d_Store_growBy_23 : decode b_Store_growBy 23 = .ok (.iload_n 1, 1) := by decide +kernel
theorem d_Store_growBy_24 : decode b_Store_growBy 24 = .ok (.iadd, 1) := by decide +kernel
theorem d_Store_growBy_25 : decode b_Store_growBy 25 = .ok (.putfield 35, 3) := by decide +kernel
theorem d_Store_growBy_28 : decode b_Store_growBy 28 = .ok (.aload_n 0, 1) := by decide +kernel
theorem d_Store_growBy_29 : decode b_Store_growBy 29 = .ok (.getfield 35, 3) := by decide +kernel
theorem d_Store_growBy_32 : decode b_Store_growBy 32 = .ok (.iload_n 1, 1) := by decide +kernel
theorem d_Store_growBy_33 : decode b_Store_growBy 33 = .ok (.isub, 1) := by decide +kernel
theorem d_Store_growBy_34 : decode b_Store_growBy 34 = .ok (.ireturn, 1) := by decide +kernel
theorem d_Store_move_0 : decode b_Store_move 0 = .ok (.aload_n 0, 1) := by decide +kernel
theorem d_Store_move_1 : decode b_Store_move 1 = .ok (.getfield 20, 3) := by decide +kernel
theorem d_Store_move_4 : decode b_Store_move 4 = .ok (.iload 4, 2) := by decide +kernel
theorem d_Store_move_6 : decode b_Store_move 6 = .ok (.iconst 1, 1) := by decide +kernel
theorem d_Store_move_7 : decode b_Store_move 7 = .ok (.isub, 1) := by decide +kernel
theorem d_Store_move_8 : decode b_Store_move 8 = .ok (.invokevirtual 88, 3) := by decide +kernel
theorem d_Store_move_11 : decode b_Store_move 11 = .ok (.istore 5, 2) := by decide +kernel
theorem d_Store_move_13 : decode b_Store_move 13 = .ok (.iload_n 1, 1) := by decide +kernel
theorem d_Store_move_14 : decode b_Store_move 14 = .ok (.lookupswitch 238 #[(27, 82), (32, 119), (33, 141), (34, 141), (35, 156), (36, 176), (63, 189), (64, 205), (65, 225)], 82) := by decide +kernel
theorem d_Store_move_96 : decode b_Store_move 96 = .ok (.aload_n 0, 1) := by decide +kernel
theorem d_Store_move_97 : decode b_Store_move 97 = .ok (.getfield 20, 3) := by decide +kernel
theorem d_Store_move_100 : decode b_Store_move 100 = .ok (.iload 4, 2) := by decide +kernel
theorem d_Store_move_102 : decode b_Store_move 102 = .ok (.iconst 3, 1) := by decide +kernel
theorem d_Store_move_103 : decode b_Store_move 103 = .ok (.isub, 1) := by decide +kernel
theorem d_Store_move_104 : decode b_Store_move 104 = .ok (.aload_n 0, 1) := by decide +kernel
theorem d_Store_move_105 : decode b_Store_move 105 = .ok (.getfield 20, 3) := by decide +kernel
theorem d_Store_move_108 : decode b_Store_move 108 = .ok (.iload 5, 2) := by decide +kernel
theorem d_Store_move_110 : decode b_Store_move 110 = .ok (.ifCond .eq 10, 3) := by decide +kernel
theorem d_Store_move_113 : decode b_Store_move 113 = .ok (.iload 4, 2) := by decide +kernel
theorem d_Store_move_115 : decode b_Store_move 115 = .ok (.iconst 3, 1) := by decide +kernel
theorem d_Store_move_116 : decode b_Store_move 116 = .ok (.isub, 1) := by decide +kernel
theorem d_Store_move_117 : decode b_Store_move 117 = .ok (.goto 7, 3) := by decide +kernel
theorem d_Store_move_120 : decode b_Store_move 120 = .ok (.iload 4, 2) := by decide +kernel
theorem d_Store_move_122 : decode b_Store_move 122 = .ok (.iconst 2, 1) := by decide +kernel
theorem d_Store_move_123 : decode b_Store_move 123 = .ok (.isub, 1) := by decide +kernel
theorem d_Store_move_124 : decode b_Store_move 124 = .ok (.invokevirtual 88, 3) := by decide +kernel
theorem d_Store_move_127 : decode b_Store_move 127 = .ok (.invokevirtual 51, 3) := by decide +kernel
theorem d_Store_move_130 : decode b_Store_move 130 = .ok (.goto 122, 3) := by decide +kernel
theorem d_Store_move_133 : decode b_Store_move 133 = .ok (.aload_n 0, 1) := by decide +kernel
theorem d_Store_move_134 : decode b_Store_move 134 = .ok (.getfield 20, 3) := by decide +kernel
theorem d_Store_move_137 : decode b_Store_move 137 = .ok (.iload 4, 2) := by decide +kernel
theorem d_Store_move_139 : decode b_Store_move 139 = .ok (.aload_n 0, 1) := by decide +kernel
theorem d_Store_move_140 : decode b_Store_move 140 = .ok (.getfield 20, 3) := by decide +kernel
theorem d_Store_move_143 : decode b_Store_move 143 = .ok (.iload_n 3, 1) := by decide +kernel
theorem d_Store_move_144 : decode b_Store_move 144 = .ok (.iload_n 2, 1) := by decide +kernel
theorem d_Store_move_145 : decode b_Store_move 145 = .ok (.iadd, 1) := by decide +kernel
theorem d_Store_move_146 : decode b_Store_move 146 = .ok (.invokevirtual 88, 3) := by decide +kernel
theorem d_Store_move_149 : decode b_Store_move 149 = .ok (.invokevirtual 51, 3) := by decide +kernel
theorem d_Store_move_152 : decode b_Store_move 152 = .ok (.goto 100, 3) := by decide +kernel
theorem d_Store_move_155 : decode b_Store_move 155 = .ok (.aload_n 0, 1) := by decide +kernel
theorem d_Store_move_156 : decode b_Store_move 156 = .ok (.getfield 20, 3) := by decide +kernel
theorem d_Store_move_159 : decode b_Store_move 159 = .ok (.iload_n 3, 1) := by decide +kernel
theorem d_Store_move_160 : decode b_Store_move 160 = .ok (.iload_n 2, 1) := by decide +kernel
theorem d_Store_move_161 : decode b_Store_move 161 = .ok (.iadd, 1) := by decide +kernel
theorem d_Store_move_162 : decode b_Store_move 162 = .ok (.iload 5, 2) := by decide +kernel
theorem d_Store_move_164 : decode b_Store_move 164 = .ok (.invokevirtual 51, 3) := by decide +kernel
theorem d_Store_move_167 : decode b_Store_move 167 = .ok (.goto 85, 3) := by decide +kernel
theorem d_Store_move_170 : decode b_Store_move 170 = .ok (.aload_n 0, 1) := by decide +kernel
theorem d_Store_move_171 : decode b_Store_move 171 = .ok (.getfield 20, 3) := by decide +kernel
theorem d_Store_move_174 : decode b_Store_move 174 = .ok (.iload 4, 2) := by decide +kernel
theorem d_Store_move_176 : decode b_Store_move 176 = .ok (.aload_n 0, 1) := by decide +kernel
theorem d_Store_move_177 : decode b_Store_move 177 = .ok (.getfield 23, 3) := by decide +kernel
theorem d_Store_move_180 : decode b_Store_move 180 = .ok (.iload_n 2, 1) := by decide +kernel
theorem d_Store_move_181 : decode b_Store_move 181 = .ok (.invokevirtual 88, 3) := by decide +kernel
theorem d_Store_move_184 : decode b_Store_move 184 = .ok (.invokevirtual 51, 3) := by decide +kernel
theorem d_Store_move_187 : decode b_Store_move 187 = .ok (.goto 65, 3) := by decide +kernel
theorem d_Store_move_190 : decode b_Store_move 190 = .ok (.aload_n 0, 1) := by decide +kernel
theorem d_Store_move_191 : decode b_Store_move 191 = .ok (.getfield 23, 3) := by decide +kernel
theorem d_Store_move_194 : decode b_Store_move 194 = .ok (.iload_n 2, 1) := by decide +kernel
theorem d_Store_move_195 : decode b_Store_move 195 = .ok (.iload 5, 2) := by decide +kernel
theorem d_Store_move_197 : decode b_Store_move 197 = .ok (.invokevirtual 51, 3) := by decide +kernel
theorem d_Store_move_200 : decode b_Store_move 200 = .ok (.goto 52, 3) := by decide +kernel
theorem d_Store_move_203 : decode b_Store_move 203 = .ok (.aload_n 0, 1) := by decide +kernel
theorem d_Store_move_204 : decode b_Store_move 204 = .ok (.getfield 20, 3) := by decide +kernel
theorem d_Store_move_207 : decode b_Store_move 207 = .ok (.iload 4, 2) := by decide +kernel
theorem d_Store_move_209 : decode b_Store_move 209 = .ok (.aload_n 0, 1) := by decide +kernel
theorem d_Store_move_210 : decode b_Store_move 210 = .ok (.getfield 35, 3) := by decide +kernel
theorem d_Store_move_213 : decode b_Store_move 213 = .ok (.invokevirtual 51, 3) := by decide +kernel
theorem d_Store_move_216 : decode b_Store_move 216 = .ok (.goto 36, 3) := by decide +kernel
theorem d_Store_move_219 : decode b_Store_move 219 = .ok (.aload_n 0, 1) := by decide +kernel
theorem d_Store_move_220 : decode b_Store_move 220 = .ok (.getfield 20, 3) := by decide +kernel
theorem d_Store_move_223 : decode b_Store_move 223 = .ok (.iload 4, 2) := by decide +kernel
theorem d_Store_move_225 : decode b_Store_move 225 = .ok (.iconst 1, 1) := by decide +kernel
theorem d_Store_move_226 : decode b_Store_move 226 = .ok (.isub, 1) := by decide +kernel
theorem d_Store_move_227 : decode b_Store_move 227 = .ok (.aload_n 0, 1) := by decide +kernel
theorem d_Store_move_228 : decode b_Store_move 228 = .ok (.iload 5, 2) := by decide +kernel
theorem d_Store_move_230 : decode b_Store_move 230 = .ok (.invokevirtual 90, 3) := by decide +kernel
theorem d_Store_move_233 : decode b_Store_move 233 = .ok (.invokevirtual 51, 3) := by decide +kernel
theorem d_Store_move_236 : decode b_Store_move 236 = .ok (.goto 16, 3) := by decide +kernel
theorem d_Store_move_239 : decode b_Store_move 239 = .ok (.aload_n 0, 1) := by decide +kernel
theorem d_Store_move_240 : decode b_Store_move 240 = .ok (.getfield 20, 3) := by decide +kernel
theorem d_Store_move_243 : decode b_Store_move 243 = .ok (.iload 4, 2) := by decide +kernel
theorem d_Store_move_245 : decode b_Store_move 245 = .ok (.iload_n 2, 1) := by decide +kernel
theorem d_Store_move_246 : decode b_Store_move 246 = .ok (.invokevirtual 51, 3) := by decide +kernel
theorem d_Store_move_249 : decode b_Store_move 249 = .ok (.goto 3, 3) := by decide +kernel
theorem d_Store_move_252 : decode b_Store_move 252 = .ok (.return_, 1) := by decide +kernel
