theorem d_Rd_readModule_0 : decode b_Rd_readModule 0 = .ok (.aload_n 0, 1) := by decide +kernel
theorem d_Rd_readModule_1 : decode b_Rd_readModule 1 = .ok (.getfield 24, 3) := by decide +kernel
theorem d_Rd_readModule_4 : decode b_Rd_readModule 4 = .ok (.invokevirtual 32, 3) := by decide +kernel
theorem d_Rd_readModule_7 : decode b_Rd_readModule 7 = .ok (.aload_n 0, 1) := by decide +kernel
theorem d_Rd_readModule_8 : decode b_Rd_readModule 8 = .ok (.iconst 0, 1) := by decide +kernel
theorem d_Rd_readModule_9 : decode b_Rd_readModule 9 = .ok (.putfield 37, 3) := by decide +kernel
theorem d_Rd_readModule_12 : decode b_Rd_readModule 12 = .ok (.aload_n 0, 1) := by decide +kernel
theorem d_Rd_readModule_13 : decode b_Rd_readModule 13 = .ok (.aload_n 0, 1) := by decide +kernel
theorem d_Rd_readModule_14 : decode b_Rd_readModule 14 = .ok (.getfield 28, 3) := by decide +kernel
theorem d_Rd_readModule_17 : decode b_Rd_readModule 17 = .ok (.putfield 40, 3) := by decide +kernel
theorem d_Rd_readModule_20 : decode b_Rd_readModule 20 = .ok (.aload_n 0, 1) := by decide +kernel
theorem d_Rd_readModule_21 : decode b_Rd_readModule 21 = .ok (.iconst 0, 1) := by decide +kernel
theorem d_Rd_readModule_22 : decode b_Rd_readModule 22 = .ok (.putfield 43, 3) := by decide +kernel
theorem d_Rd_readModule_25 : decode b_Rd_readModule 25 = .ok (.aload_n 0, 1) := by decide +kernel
theorem d_Rd_readModule_26 : decode b_Rd_readModule 26 = .ok (.iconst 0, 1) := by decide +kernel
theorem d_Rd_readModule_27 : decode b_Rd_readModule 27 = .ok (.putfield 46, 3) := by decide +kernel
theorem d_Rd_readModule_30 : decode b_Rd_readModule 30 = .ok (.iconst 0, 1) := by decide +kernel
theorem d_Rd_readModule_31 : decode b_Rd_readModule 31 = .ok (.istore_n 1, 1) := by decide +kernel
theorem d_Rd_readModule_32 : decode b_Rd_readModule 32 = .ok (.iload_n 1, 1) := by decide +kernel
theorem d_Rd_readModule_33 : decode b_Rd_readModule 33 = .ok (.getstatic 49, 3) := by decide +kernel
theorem d_Rd_readModule_36 : decode b_Rd_readModule 36 = .ok (.arraylength, 1) := by decide +kernel
theorem d_Rd_readModule_37 : decode b_Rd_readModule 37 = .ok (.if_icmp .ge 18, 3) := by decide +kernel
theorem d_Rd_readModule_40 : decode b_Rd_readModule 40 = .ok (.aload_n 0, 1) := by decide +kernel
theorem d_Rd_readModule_41 : decode b_Rd_readModule 41 = .ok (.getstatic 49, 3) := by decide +kernel
theorem d_Rd_readModule_44 : decode b_Rd_readModule 44 = .ok (.iload_n 1, 1) := by decide +kernel
theorem d_Rd_readModule_45 : decode b_Rd_readModule 45 = .ok (.iaload, 1) := by decide +kernel
theorem d_Rd_readModule_46 : decode b_Rd_readModule 46 = .ok (.invokevirtual 52, 3) := by decide +kernel
theorem d_Rd_readModule_49 : decode b_Rd_readModule 49 = .ok (.iinc 1 1, 3) := by decide +kernel
theorem d_Rd_readModule_52 : decode b_Rd_readModule 52 = .ok (.goto (-20), 3) := by decide +kernel
theorem d_Rd_readModule_55 : decode b_Rd_readModule 55 = .ok (.iconst (-1), 1) := by decide +kernel
theorem d_Rd_readModule_56 : decode b_Rd_readModule 56 = .ok (.istore_n 1, 1) := by decide +kernel
theorem d_Rd_readModule_57 : decode b_Rd_readModule 57 = .ok (.iconst 0, 1) := by decide +kernel
theorem d_Rd_readModule_58 : decode b_Rd_readModule 58 = .ok (.istore_n 2, 1) := by decide +kernel
theorem d_Rd_readModule_59 : decode b_Rd_readModule 59 = .ok (.iload_n 2, 1) := by decide +kernel
theorem d_Rd_readModule_60 : decode b_Rd_readModule 60 = .ok (.bipush 11, 2) := by decide +kernel
theorem d_Rd_readModule_62 : decode b_Rd_readModule 62 = .ok (.if_icmp .gt 45, 3) := by decide +kernel
theorem d_Rd_readModule_65 : decode b_Rd_readModule 65 = .ok (.aload_n 0, 1) := by decide +kernel
theorem d_Rd_readModule_66 : decode b_Rd_readModule 66 = .ok (.getfield 46, 3) := by decide +kernel
theorem d_Rd_readModule_69 : decode b_Rd_readModule 69 = .ok (.ifCond .ne 38, 3) := by decide +kernel
theorem d_Rd_readModule_72 : decode b_Rd_readModule 72 = .ok (.aload_n 0, 1) := by decide +kernel
theorem d_Rd_readModule_73 : decode b_Rd_readModule 73 = .ok (.getfield 37, 3) := by decide +kernel
theorem d_Rd_readModule_76 : decode b_Rd_readModule 76 = .ok (.aload_n 0, 1) := by decide +kernel
theorem d_Rd_readModule_77 : decode b_Rd_readModule 77 = .ok (.getfield 28, 3) := by decide +kernel
theorem d_Rd_readModule_80 : decode b_Rd_readModule 80 = .ok (.if_icmp .ge 27, 3) := by decide +kernel
theorem d_Rd_readModule_83 : decode b_Rd_readModule 83 = .ok (.aload_n 0, 1) := by decide +kernel
theorem d_Rd_readModule_84 : decode b_Rd_readModule 84 = .ok (.invokevirtual 55, 3) := by decide +kernel
theorem d_Rd_readModule_87 : decode b_Rd_readModule 87 = .ok (.istore_n 3, 1) := by decide +kernel
theorem d_Rd_readModule_88 : decode b_Rd_readModule 88 = .ok (.aload_n 0, 1) := by decide +kernel
theorem d_Rd_readModule_89 : decode b_Rd_readModule 89 = .ok (.iload_n 3, 1) := by decide +kernel
theorem d_Rd_readModule_90 : decode b_Rd_readModule 90 = .ok (.iload_n 1, 1) := by decide +kernel
theorem d_Rd_readModule_91 : decode b_Rd_readModule 91 = .ok (.invokevirtual 59, 3) := by decide +kernel
theorem d_Rd_readModule_94 : decode b_Rd_readModule 94 = .ok (.aload_n 0, 1) := by decide +kernel
theorem d_Rd_readModule_95 : decode b_Rd_readModule 95 = .ok (.iload_n 3, 1) := by decide +kernel
theorem d_Rd_readModule_96 : decode b_Rd_readModule 96 = .ok (.invokevirtual 63, 3) := by decide +kernel
theorem d_Rd_readModule_99 : decode b_Rd_readModule 99 = .ok (.iload_n 3, 1) := by decide +kernel
theorem d_Rd_readModule_100 : decode b_Rd_readModule 100 = .ok (.istore_n 1, 1) := by decide +kernel
theorem d_Rd_readModule_101 : decode b_Rd_readModule 101 = .ok (.iinc 2 1, 3) := by decide +kernel
theorem d_Rd_readModule_104 : decode b_Rd_readModule 104 = .ok (.goto (-45), 3) := by decide +kernel
theorem d_Rd_readModule_107 : decode b_Rd_readModule 107 = .ok (.aload_n 0, 1) := by decide +kernel
theorem d_Rd_readModule_108 : decode b_Rd_readModule 108 = .ok (.getfield 43, 3) := by decide +kernel
theorem d_Rd_readModule_111 : decode b_Rd_readModule 111 = .ok (.aload_n 0, 1) := by decide +kernel
theorem d_Rd_readModule_112 : decode b_Rd_readModule 112 = .ok (.getfield 24, 3) := by decide +kernel
theorem d_Rd_readModule_115 : decode b_Rd_readModule 115 = .ok (.getfield 66, 3) := by decide +kernel
theorem d_Rd_readModule_118 : decode b_Rd_readModule 118 = .ok (.invokevirtual 70, 3) := by decide +kernel
theorem d_Rd_readModule_121 : decode b_Rd_readModule 121 = .ok (.if_icmp .eq 8, 3) := by decide +kernel
theorem d_Rd_readModule_124 : decode b_Rd_readModule 124 = .ok (.aload_n 0, 1) := by decide +kernel
theorem d_Rd_readModule_125 : decode b_Rd_readModule 125 = .ok (.iconst 1, 1) := by decide +kernel
theorem d_Rd_readModule_126 : decode b_Rd_readModule 126 = .ok (.invokevirtual 75, 3) := by decide +kernel
theorem d_Rd_readModule_129 : decode b_Rd_readModule 129 = .ok (.aload_n 0, 1) := by decide +kernel
theorem d_Rd_readModule_130 : decode b_Rd_readModule 130 = .ok (.getfield 46, 3) := by decide +kernel
theorem d_Rd_readModule_133 : decode b_Rd_readModule 133 = .ok (.ireturn, 1) := by decide +kernel
theorem d_Op_isControl_0 : decode b_Op_isControl 0 = .ok (.iload_n 0, 1) := by decide +kernel
theorem d_Op_isControl_1 : decode b_Op_isControl 1 = .ok (.ifCond .lt 8, 3) := by decide +kernel
theorem d_Op_isControl_4 : decode b_Op_isControl 4 = .ok (.iload_n 0, 1) := by decide +kernel
theorem d_Op_isControl_5 : decode b_Op_isControl 5 = .ok (.iconst 5, 1) := by decide +kernel
theorem d_Op_isControl_6 : decode b_Op_isControl 6 = .ok (.if_icmp .le 15, 3) := by decide +kernel
theorem d_Op_isControl_9 : decode b_Op_isControl 9 = .ok (.iload_n 0, 1) := by decide +kernel
theorem d_Op_isControl_10 : decode b_Op_isControl 10 = .ok (.bipush 11, 2) := by decide +kernel
theorem d_Op_isControl_12 : decode b_Op_isControl 12 = .ok (.if_icmp .lt 13, 3) := by decide +kernel
theorem d_Op_isControl_15 : decode b_Op_isControl 15 = .ok (.iload_n 0, 1) := by decide +kernel
theorem d_Op_isControl_16 : decode b_Op_isControl 16 = .ok (.bipush 16, 2) := by decide +kernel
theorem d_Op_isControl_18 : decode b_Op_isControl 18 = .ok (.if_icmp .gt 7, 3) := by decide +kernel
theorem d_Op_isControl_21 : decode b_Op_isControl 21 = .ok (.iconst 1, 1) := by decide +kernel
theorem d_Op_isControl_22 : decode b_Op_isControl 22 = .ok (.goto 4, 3) := by decide +kernel
theorem d_Op_isControl_25 : decode b_Op_isControl 25 = .ok (.iconst 0, 1) := by decide +kernel
theorem d_Op_isControl_26 : decode b_Op_isControl 26 = .ok (.ireturn, 1) := by decide +kernel
theorem d_Op_isStore_0 : decode b_Op_isStore 0 = .ok (.iload_n 0, 1) := by decide +kernel
theorem d_Op_isStore_1 : decode b_Op_isStore 1 = .ok (.bipush 54, 2) := by decide +kernel
theorem d_Op_isStore_3 : decode b_Op_isStore 3 = .ok (.if_icmp .eq 15, 3) := by decide +kernel
theorem d_Op_isStore_6 : decode b_Op_isStore 6 = .ok (.iload_n 0, 1) := by decide +kernel
theorem d_Op_isStore_7 : decode b_Op_isStore 7 = .ok (.bipush 58, 2) := by decide +kernel
theorem d_Op_isStore_9 : decode b_Op_isStore 9 = .ok (.if_icmp .eq 9, 3) := by decide +kernel
theorem d_Op_isStore_12 : decode b_Op_isStore 12 = .ok (.iload_n 0, 1) := by decide +kernel
theorem d_Op_isStore_13 : decode b_Op_isStore 13 = .ok (.bipush 59, 2) := by decide +kernel
theorem d_Op_isStore_15 : decode b_Op_isStore 15 = .ok (.if_icmp .ne 7, 3) := by decide +kernel
theorem d_Op_isStore_18 : decode b_Op_isStore 18 = .ok (.iconst 1, 1) := by decide +kernel
theorem d_Op_isStore_19 : decode b_Op_isStore 19 = .ok (.goto 4, 3) := by decide +kernel
theorem d_Op_isStore_22 : decode b_Op_isStore 22 = .ok (.iconst 0, 1) := by decide +kernel
theorem d_Op_isStore_23 : decode b_Op_isStore 23 = .ok (.ireturn, 1) := by decide +kernel
theorem d_Op_isAccess_0 : decode b_Op_isAccess 0 = .ok (.iload_n 0, 1) := by decide +kernel
theorem d_Op_isAccess_1 : decode b_Op_isAccess 1 = .ok (.bipush 40, 2) := by decide +kernel
theorem d_Op_isAccess_3 : decode b_Op_isAccess 3 = .ok (.if_icmp .eq 22, 3) := by decide +kernel
theorem d_Op_isAccess_6 : decode b_Op_isAccess 6 = .ok (.iload_n 0, 1) := by decide +kernel
theorem d_Op_isAccess_7 : decode b_Op_isAccess 7 = .ok (.bipush 44, 2) := by decide +kernel
theorem d_Op_isAccess_9 : decode b_Op_isAccess 9 = .ok (.if_icmp .lt 9, 3) := by decide +kernel
theorem d_Op_isAccess_12 : decode b_Op_isAccess 12 = .ok (.iload_n 0, 1) := by decide +kernel
theorem d_Op_isAccess_13 : decode b_Op_isAccess 13 = .ok (.bipush 47, 2) := by decide +kernel
theorem d_Op_isAccess_15 : decode b_Op_isAccess 15 = .ok (.if_icmp .le 10, 3) := by decide +kernel
theorem d_Op_isAccess_18 : decode b_Op_isAccess 18 = .ok (.iload_n 0, 1) := by decide +kernel
theorem d_Op_isAccess_19 : decode b_Op_isAccess 19 = .ok (.invokestatic 21, 3) := by decide +kernel
theorem d_Op_isAccess_22 : decode b_Op_isAccess 22 = .ok (.ifCond .eq 7, 3) := by decide +kernel
theorem d_Op_isAccess_25 : decode b_Op_isAccess 25 = .ok (.iconst 1, 1) := by decide +kernel
theorem d_Op_isAccess_26 : decode b_Op_isAccess 26 = .ok (.goto 4, 3) := by decide +kernel
theorem d_Op_isAccess_29 : decode b_Op_isAccess 29 = .ok (.iconst 0, 1) := by decide +kernel
theorem d_Op_isAccess_30 : decode b_Op_isAccess 30 = .ok (.ireturn, 1) := by decide +kernel
theorem d_Op_isNumeric_0 : decode b_Op_isNumeric 0 = .ok (.iload_n 0, 1) := by decide +kernel
theorem d_Op_isNumeric_1 : decode b_Op_isNumeric 1 = .ok (.bipush 69, 2) := by decide +kernel
theorem d_Op_isNumeric_3 : decode b_Op_isNumeric 3 = .ok (.if_icmp .lt 9, 3) := by decide +kernel
theorem d_Op_isNumeric_6 : decode b_Op_isNumeric 6 = .ok (.iload_n 0, 1) := by decide +kernel
theorem d_Op_isNumeric_7 : decode b_Op_isNumeric 7 = .ok (.bipush 79, 2) := by decide +kernel
theorem d_Op_isNumeric_9 : decode b_Op_isNumeric 9 = .ok (.if_icmp .le 15, 3) := by decide +kernel
theorem d_Op_isNumeric_12 : decode b_Op_isNumeric 12 = .ok (.iload_n 0, 1) := by decide +kernel
theorem d_Op_isNumeric_13 : decode b_Op_isNumeric 13 = .ok (.bipush 103, 2) := by decide +kernel
theorem d_Op_isNumeric_15 : decode b_Op_isNumeric 15 = .ok (.if_icmp .lt 13, 3) := by decide +kernel
theorem d_Op_isNumeric_18 : decode b_Op_isNumeric 18 = .ok (.iload_n 0, 1) := by decide +kernel
theorem d_Op_isNumeric_19 : decode b_Op_isNumeric 19 = .ok (.bipush 120, 2) := by decide +kernel
theorem d_Op_isNumeric_21 : decode b_Op_isNumeric 21 = .ok (.if_icmp .gt 7, 3) := by decide +kernel
theorem d_Op_isNumeric_24 : decode b_Op_isNumeric 24 = .ok (.iconst 1, 1) := by decide +kernel
theorem d_Op_isNumeric_25 : decode b_Op_isNumeric 25 = .ok (.goto 4, 3) := by decide +kernel
theorem d_Op_isNumeric_28 : decode b_Op_isNumeric 28 = .ok (.iconst 0, 1) := by decide +kernel
theorem d_Op_isNumeric_29 : decode b_Op_isNumeric 29 = .ok (.ireturn, 1) := by decide +kernel
theorem d_Op_isKnown_0 : decode b_Op_isKnown 0 = .ok (.iload_n 0, 1) := by decide +kernel
theorem d_Op_isKnown_1 : decode b_Op_isKnown 1 = .ok (.invokestatic 9, 3) := by decide +kernel
theorem d_Op_isKnown_4 : decode b_Op_isKnown 4 = .ok (.ifCond .ne 53, 3) := by decide +kernel
theorem d_Op_isKnown_7 : decode b_Op_isKnown 7 = .ok (.iload_n 0, 1) := by decide +kernel
theorem d_Op_isKnown_8 : decode b_Op_isKnown 8 = .ok (.bipush 26, 2) := by decide +kernel
theorem d_Op_isKnown_10 : decode b_Op_isKnown 10 = .ok (.if_icmp .eq 47, 3) := by decide +kernel
theorem d_Op_isKnown_13 : decode b_Op_isKnown 13 = .ok (.iload_n 0, 1) := by decide +kernel
theorem d_Op_isKnown_14 : decode b_Op_isKnown 14 = .ok (.bipush 27, 2) := by decide +kernel
theorem d_Op_isKnown_16 : decode b_Op_isKnown 16 = .ok (.if_icmp .eq 41, 3) := by decide +kernel
theorem d_Op_isKnown_19 : decode b_Op_isKnown 19 = .ok (.iload_n 0, 1) := by decide +kernel
theorem d_Op_isKnown_20 : decode b_Op_isKnown 20 = .ok (.bipush 32, 2) := by decide +kernel
theorem d_Op_isKnown_22 : decode b_Op_isKnown 22 = .ok (.if_icmp .lt 9, 3) := by decide +kernel
theorem d_Op_isKnown_25 : decode b_Op_isKnown 25 = .ok (.iload_n 0, 1) := by decide +kernel
theorem d_Op_isKnown_26 : decode b_Op_isKnown 26 = .ok (.bipush 36, 2) := by decide +kernel
theorem d_Op_isKnown_28 : decode b_Op_isKnown 28 = .ok (.if_icmp .le 29, 3) := by decide +kernel
theorem d_Op_isKnown_31 : decode b_Op_isKnown 31 = .ok (.iload_n 0, 1) := by decide +kernel
theorem d_Op_isKnown_32 : decode b_Op_isKnown 32 = .ok (.invokestatic 15, 3) := by decide +kernel
theorem d_Op_isKnown_35 : decode b_Op_isKnown 35 = .ok (.ifCond .ne 22, 3) := by decide +kernel
theorem d_Op_isKnown_38 : decode b_Op_isKnown 38 = .ok (.iload_n 0, 1) := by decide +kernel
theorem d_Op_isKnown_39 : decode b_Op_isKnown 39 = .ok (.bipush 63, 2) := by decide +kernel
theorem d_Op_isKnown_41 : decode b_Op_isKnown 41 = .ok (.if_icmp .lt 9, 3) := by decide +kernel
theorem d_Op_isKnown_44 : decode b_Op_isKnown 44 = .ok (.iload_n 0, 1) := by decide +kernel
theorem d_Op_isKnown_45 : decode b_Op_isKnown 45 = .ok (.bipush 65, 2) := by decide +kernel
theorem d_Op_isKnown_47 : decode b_Op_isKnown 47 = .ok (.if_icmp .le 10, 3) := by decide +kernel
theorem d_Op_isKnown_50 : decode b_Op_isKnown 50 = .ok (.iload_n 0, 1) := by decide +kernel
theorem d_Op_isKnown_51 : decode b_Op_isKnown 51 = .ok (.invokestatic 18, 3) := by decide +kernel
theorem d_Op_isKnown_54 : decode b_Op_isKnown 54 = .ok (.ifCond .eq 7, 3) := by decide +kernel
theorem d_Op_isKnown_57 : decode b_Op_isKnown 57 = .ok (.iconst 1, 1) := by decide +kernel
theorem d_Op_isKnown_58 : decode b_Op_isKnown 58 = .ok (.goto 4, 3) := by decide +kernel
theorem d_Op_isKnown_61 : decode b_Op_isKnown 61 = .ok (.iconst 0, 1) := by decide +kernel
theorem d_Op_isKnown_62 : decode b_Op_isKnown 62 = .ok (.ireturn, 1) := by decide +kernel
theorem d_Op_opensBlock_0 : decode b_Op_opensBlock 0 = .ok (.iload_n 0, 1) := by decide +kernel
theorem d_Op_opensBlock_1 : decode b_Op_opensBlock 1 = .ok (.iconst 2, 1) := by decide +kernel
theorem d_Op_opensBlock_2 : decode b_Op_opensBlock 2 = .ok (.if_icmp .eq 13, 3) := by decide +kernel
theorem d_Op_opensBlock_5 : decode b_Op_opensBlock 5 = .ok (.iload_n 0, 1) := by decide +kernel
theorem d_Op_opensBlock_6 : decode b_Op_opensBlock 6 = .ok (.iconst 3, 1) := by decide +kernel
theorem d_Op_opensBlock_7 : decode b_Op_opensBlock 7 = .ok (.if_icmp .eq 8, 3) := by decide +kernel
theorem d_Op_opensBlock_10 : decode b_Op_opensBlock 10 = .ok (.iload_n 0, 1) := by decide +kernel
theorem d_Op_opensBlock_11 : decode b_Op_opensBlock 11 = .ok (.iconst 4, 1) := by decide +kernel
theorem d_Op_opensBlock_12 : decode b_Op_opensBlock 12 = .ok (.if_icmp .ne 7, 3) := by decide +kernel
theorem d_Op_opensBlock_15 : decode b_Op_opensBlock 15 = .ok (.iconst 1, 1) := by decide +kernel
theorem d_Op_opensBlock_16 : decode b_Op_opensBlock 16 = .ok (.goto 4, 3) := by decide +kernel
theorem d_Op_opensBlock_19 : decode b_Op_opensBlock 19 = .ok (.iconst 0, 1) := by decide +kernel
theorem d_Op_opensBlock_20 : decode b_Op_opensBlock 20 = .ok (.ireturn, 1) := by decide +kernel
theorem d_Op_width_0 : decode b_Op_width 0 = .ok (.iload_n 0, 1) := by decide +kernel
theorem d_Op_width_1 : decode b_Op_width 1 = .ok (.bipush 40, 2) := by decide +kernel
theorem d_Op_width_3 : decode b_Op_width 3 = .ok (.if_icmp .eq 9, 3) := by decide +kernel
theorem d_Op_width_6 : decode b_Op_width 6 = .ok (.iload_n 0, 1) := by decide +kernel
theorem d_Op_width_7 : decode b_Op_width 7 = .ok (.bipush 54, 2) := by decide +kernel
theorem d_Op_width_9 : decode b_Op_width 9 = .ok (.if_icmp .ne 5, 3) := by decide +kernel
theorem d_Op_width_12 : decode b_Op_width 12 = .ok (.iconst 4, 1) := by decide +kernel
theorem d_Op_width_13 : decode b_Op_width 13 = .ok (.ireturn, 1) := by decide +kernel
theorem d_Op_width_14 : decode b_Op_width 14 = .ok (.iload_n 0, 1) := by decide +kernel
theorem d_Op_width_15 : decode b_Op_width 15 = .ok (.bipush 46, 2) := by decide +kernel
theorem d_Op_width_17 : decode b_Op_width 17 = .ok (.if_icmp .eq 15, 3) := by decide +kernel
theorem d_Op_width_20 : decode b_Op_width 20 = .ok (.iload_n 0, 1) := by decide +kernel
theorem d_Op_width_21 : decode b_Op_width 21 = .ok (.bipush 47, 2) := by decide +kernel
theorem d_Op_width_23 : decode b_Op_width 23 = .ok (.if_icmp .eq 9, 3) := by decide +kernel
theorem d_Op_width_26 : decode b_Op_width 26 = .ok (.iload_n 0, 1) := by decide +kernel
theorem d_Op_width_27 : decode b_Op_width 27 = .ok (.bipush 59, 2) := by decide +kernel
theorem d_Op_width_29 : decode b_Op_width 29 = .ok (.if_icmp .ne 7, 3) := by decide +kernel
theorem d_Op_width_32 : decode b_Op_width 32 = .ok (.iconst 2, 1) := by decide +kernel
theorem d_Op_width_33 : decode b_Op_width 33 = .ok (.goto 4, 3) := by decide +kernel
theorem d_Op_width_36 : decode b_Op_width 36 = .ok (.iconst 1, 1) := by decide +kernel
theorem d_Op_width_37 : decode b_Op_width 37 = .ok (.ireturn, 1) := by decide +kernel
theorem d_Op_takes_0 : decode b_Op_takes 0 = .ok (.iload_n 0, 1) := by decide +kernel
theorem d_Op_takes_1 : decode b_Op_takes 1 = .ok (.lookupswitch 129 #[(26, 125), (27, 127), (32, 123), (33, 125), (34, 125), (35, 123), (36, 125), (63, 123), (64, 125), (65, 123), (69, 125), (103, 125), (104, 125), (105, 125)], 123) := by decide +kernel
theorem d_Op_takes_124 : decode b_Op_takes 124 = .ok (.iconst 0, 1) := by decide +kernel
theorem d_Op_takes_125 : decode b_Op_takes 125 = .ok (.ireturn, 1) := by decide +kernel
theorem d_Op_takes_126 : decode b_Op_takes 126 = .ok (.iconst 1, 1) := by decide +kernel
theorem d_Op_takes_127 : decode b_Op_takes 127 = .ok (.ireturn, 1) := by decide +kernel
theorem d_Op_takes_128 : decode b_Op_takes 128 = .ok (.iconst 3, 1) := by decide +kernel
theorem d_Op_takes_129 : decode b_Op_takes 129 = .ok (.ireturn, 1) := by decide +kernel
theorem d_Op_takes_130 : decode b_Op_takes 130 = .ok (.iload_n 0, 1) := by decide +kernel
theorem d_Op_takes_131 : decode b_Op_takes 131 = .ok (.invokestatic 15, 3) := by decide +kernel
theorem d_Op_takes_134 : decode b_Op_takes 134 = .ok (.ifCond .eq 14, 3) := by decide +kernel
theorem d_Op_takes_137 : decode b_Op_takes 137 = .ok (.iload_n 0, 1) := by decide +kernel
theorem d_Op_takes_138 : decode b_Op_takes 138 = .ok (.invokestatic 21, 3) := by decide +kernel
theorem d_Op_takes_141 : decode b_Op_takes 141 = .ok (.ifCond .ne 7, 3) := by decide +kernel
theorem d_Op_takes_144 : decode b_Op_takes 144 = .ok (.iconst 1, 1) := by decide +kernel
theorem d_Op_takes_145 : decode b_Op_takes 145 = .ok (.goto 4, 3) := by decide +kernel
theorem d_Op_takes_148 : decode b_Op_takes 148 = .ok (.iconst 2, 1) := by decide +kernel
theorem d_Op_takes_149 : decode b_Op_takes 149 = .ok (.ireturn, 1) := by decide +kernel
theorem d_Op_gives_0 : decode b_Op_gives 0 = .ok (.iload_n 0, 1) := by decide +kernel
theorem d_Op_gives_1 : decode b_Op_gives 1 = .ok (.bipush 26, 2) := by decide +kernel
theorem d_Op_gives_3 : decode b_Op_gives 3 = .ok (.if_icmp .eq 22, 3) := by decide +kernel
theorem d_Op_gives_6 : decode b_Op_gives 6 = .ok (.iload_n 0, 1) := by decide +kernel
theorem d_Op_gives_7 : decode b_Op_gives 7 = .ok (.bipush 33, 2) := by decide +kernel
theorem d_Op_gives_9 : decode b_Op_gives 9 = .ok (.if_icmp .eq 16, 3) := by decide +kernel
theorem d_Op_gives_12 : decode b_Op_gives 12 = .ok (.iload_n 0, 1) := by decide +kernel
theorem d_Op_gives_13 : decode b_Op_gives 13 = .ok (.bipush 36, 2) := by decide +kernel
theorem d_Op_gives_15 : decode b_Op_gives 15 = .ok (.if_icmp .eq 10, 3) := by decide +kernel
theorem d_Op_gives_18 : decode b_Op_gives 18 = .ok (.iload_n 0, 1) := by decide +kernel
theorem d_Op_gives_19 : decode b_Op_gives 19 = .ok (.invokestatic 21, 3) := by decide +kernel
theorem d_Op_gives_22 : decode b_Op_gives 22 = .ok (.ifCond .eq 7, 3) := by decide +kernel
theorem d_Op_gives_25 : decode b_Op_gives 25 = .ok (.iconst 0, 1) := by decide +kernel
theorem d_Op_gives_26 : decode b_Op_gives 26 = .ok (.goto 4, 3) := by decide +kernel
theorem d_Op_gives_29 : decode b_Op_gives 29 = .ok (.iconst 1, 1) := by decide +kernel
theorem d_Op_gives_30 : decode b_Op_gives 30 = .ok (.ireturn, 1) := by decide +kernel
theorem d_Op_ofOne_0 : decode b_Op_ofOne 0 = .ok (.iload_n 0, 1) := by decide +kernel
theorem d_Op_ofOne_1 : decode b_Op_ofOne 1 = .ok (.lookupswitch 55 #[(69, 35), (103, 45), (104, 50)], 35) := by decide +kernel
theorem d_Op_ofOne_36 : decode b_Op_ofOne 36 = .ok (.iload_n 1, 1) := by decide +kernel
theorem d_Op_ofOne_37 : decode b_Op_ofOne 37 = .ok (.ifCond .ne 7, 3) := by decide +kernel
theorem d_Op_ofOne_40 : decode b_Op_ofOne 40 = .ok (.iconst 1, 1) := by decide +kernel
theorem d_Op_ofOne_41 : decode b_Op_ofOne 41 = .ok (.goto 4, 3) := by decide +kernel
theorem d_Op_ofOne_44 : decode b_Op_ofOne 44 = .ok (.iconst 0, 1) := by decide +kernel
theorem d_Op_ofOne_45 : decode b_Op_ofOne 45 = .ok (.ireturn, 1) := by decide +kernel
theorem d_Op_ofOne_46 : decode b_Op_ofOne 46 = .ok (.iload_n 1, 1) := by decide +kernel
theorem d_Op_ofOne_47 : decode b_Op_ofOne 47 = .ok (.invokestatic 24, 3) := by decide +kernel
theorem d_Op_ofOne_50 : decode b_Op_ofOne 50 = .ok (.ireturn, 1) := by decide +kernel
theorem d_Op_ofOne_51 : decode b_Op_ofOne 51 = .ok (.iload_n 1, 1) := by decide +kernel
theorem d_Op_ofOne_52 : decode b_Op_ofOne 52 = .ok (.invokestatic 30, 3) := by decide +kernel
theorem d_Op_ofOne_55 : decode b_Op_ofOne 55 = .ok (.ireturn, 1) := by decide +kernel
theorem d_Op_ofOne_56 : decode b_Op_ofOne 56 = .ok (.iload_n 1, 1) := by decide +kernel
theorem d_Op_ofOne_57 : decode b_Op_ofOne 57 = .ok (.invokestatic 33, 3) := by decide +kernel
theorem d_Op_ofOne_60 : decode b_Op_ofOne 60 = .ok (.ireturn, 1) := by decide +kernel
theorem d_Op_trapOf_0 : decode b_Op_trapOf 0 = .ok (.iload_n 0, 1) := by decide +kernel
theorem d_Op_trapOf_1 : decode b_Op_trapOf 1 = .ok (.bipush 109, 2) := by decide +kernel
theorem d_Op_trapOf_3 : decode b_Op_trapOf 3 = .ok (.if_icmp .lt 9, 3) := by decide +kernel
theorem d_Op_trapOf_6 : decode b_Op_trapOf 6 = .ok (.iload_n 0, 1) := by decide +kernel
theorem d_Op_trapOf_7 : decode b_Op_trapOf 7 = .ok (.bipush 112, 2) := by decide +kernel
theorem d_Op_trapOf_9 : decode b_Op_trapOf 9 = .ok (.if_icmp .le 5, 3) := by decide +kernel
theorem d_Op_trapOf_12 : decode b_Op_trapOf 12 = .ok (.iconst 0, 1) := by decide +kernel
theorem d_Op_trapOf_13 : decode b_Op_trapOf 13 = .ok (.ireturn, 1) := by decide +kernel
theorem d_Op_trapOf_14 : decode b_Op_trapOf 14 = .ok (.iload_n 2, 1) := by decide +kernel
theorem d_Op_trapOf_15 : decode b_Op_trapOf 15 = .ok (.ifCond .ne 5, 3) := by decide +kernel
theorem d_Op_trapOf_18 : decode b_Op_trapOf 18 = .ok (.iconst 3, 1) := by decide +kernel
theorem d_Op_trapOf_19 : decode b_Op_trapOf 19 = .ok (.ireturn, 1) := by decide +kernel
theorem d_Op_trapOf_20 : decode b_Op_trapOf 20 = .ok (.iload_n 0, 1) := by decide +kernel
theorem d_Op_trapOf_21 : decode b_Op_trapOf 21 = .ok (.bipush 109, 2) := by decide +kernel
theorem d_Op_trapOf_23 : decode b_Op_trapOf 23 = .ok (.if_icmp .ne 18, 3) := by decide +kernel
theorem d_Op_trapOf_26 : decode b_Op_trapOf 26 = .ok (.iload_n 1, 1) := by decide +kernel
theorem d_Op_trapOf_27 : decode b_Op_trapOf 27 = .ok (.ldc 44, 2) := by decide +kernel
theorem d_Op_trapOf_29 : decode b_Op_trapOf 29 = .ok (.if_icmp .ne 12, 3) := by decide +kernel
theorem d_Op_trapOf_32 : decode b_Op_trapOf 32 = .ok (.iload_n 2, 1) := by decide +kernel
theorem d_Op_trapOf_33 : decode b_Op_trapOf 33 = .ok (.iconst (-1), 1) := by decide +kernel
theorem d_Op_trapOf_34 : decode b_Op_trapOf 34 = .ok (.if_icmp .ne 7, 3) := by decide +kernel
theorem d_Op_trapOf_37 : decode b_Op_trapOf 37 = .ok (.iconst 4, 1) := by decide +kernel
theorem d_Op_trapOf_38 : decode b_Op_trapOf 38 = .ok (.goto 4, 3) := by decide +kernel
theorem d_Op_trapOf_41 : decode b_Op_trapOf 41 = .ok (.iconst 0, 1) := by decide +kernel
theorem d_Op_trapOf_42 : decode b_Op_trapOf 42 = .ok (.ireturn, 1) := by decide +kernel
theorem d_Op_isTrue_0 : decode b_Op_isTrue 0 = .ok (.iload_n 1, 1) := by decide +kernel
theorem d_Op_isTrue_1 : decode b_Op_isTrue 1 = .ok (.i2l, 1) := by decide +kernel
theorem d_Op_isTrue_2 : decode b_Op_isTrue 2 = .ok (.ldc2_w 45, 3) := by decide +kernel
theorem d_Op_isTrue_5 : decode b_Op_isTrue 5 = .ok (.land, 1) := by decide +kernel
theorem d_Op_isTrue_6 : decode b_Op_isTrue 6 = .ok (.lstore_n 3, 1) := by decide +kernel
theorem d_Op_isTrue_7 : decode b_Op_isTrue 7 = .ok (.iload_n 2, 1) := by decide +kernel
theorem d_Op_isTrue_8 : decode b_Op_isTrue 8 = .ok (.i2l, 1) := by decide +kernel
theorem d_Op_isTrue_9 : decode b_Op_isTrue 9 = .ok (.ldc2_w 45, 3) := by decide +kernel
theorem d_Op_isTrue_12 : decode b_Op_isTrue 12 = .ok (.land, 1) := by decide +kernel
theorem d_Op_isTrue_13 : decode b_Op_isTrue 13 = .ok (.lstore 5, 2) := by decide +kernel
theorem d_Op_isTrue_15 : decode b_Op_isTrue 15 = .ok (.iload_n 0, 1) := by decide +kernel
theorem d_Op_isTrue_16 : decode b_Op_isTrue 16 = .ok (.tableswitch 157 70 78 #[52, 63, 74, 85, 98, 109, 122, 133, 146], 52) := by decide +kernel
theorem d_Op_isTrue_68 : decode b_Op_isTrue 68 = .ok (.iload_n 1, 1) := by decide +kernel
theorem d_Op_isTrue_69 : decode b_Op_isTrue 69 = .ok (.iload_n 2, 1) := by decide +kernel
theorem d_Op_isTrue_70 : decode b_Op_isTrue 70 = .ok (.if_icmp .ne 7, 3) := by decide +kernel
theorem d_Op_isTrue_73 : decode b_Op_isTrue 73 = .ok (.iconst 1, 1) := by decide +kernel
theorem d_Op_isTrue_74 : decode b_Op_isTrue 74 = .ok (.goto 4, 3) := by decide +kernel
theorem d_Op_isTrue_77 : decode b_Op_isTrue 77 = .ok (.iconst 0, 1) := by decide +kernel
theorem d_Op_isTrue_78 : decode b_Op_isTrue 78 = .ok (.ireturn, 1) := by decide +kernel
theorem d_Op_isTrue_79 : decode b_Op_isTrue 79 = .ok (.iload_n 1, 1) := by decide +kernel
theorem d_Op_isTrue_80 : decode b_Op_isTrue 80 = .ok (.iload_n 2, 1) := by decide +kernel
theorem d_Op_isTrue_81 : decode b_Op_isTrue 81 = .ok (.if_icmp .eq 7, 3) := by decide +kernel
theorem d_Op_isTrue_84 : decode b_Op_isTrue 84 = .ok (.iconst 1, 1) := by decide +kernel
theorem d_Op_isTrue_85 : decode b_Op_isTrue 85 = .ok (.goto 4, 3) := by decide +kernel
theorem d_Op_isTrue_88 : decode b_Op_isTrue 88 = .ok (.iconst 0, 1) := by decide +kernel
theorem d_Op_isTrue_89 : decode b_Op_isTrue 89 = .ok (.ireturn, 1) := by decide +kernel
theorem d_Op_isTrue_90 : decode b_Op_isTrue 90 = .ok (.iload_n 1, 1) := by decide +kernel
theorem d_Op_isTrue_91 : decode b_Op_isTrue 91 = .ok (.iload_n 2, 1) := by decide +kernel
theorem d_Op_isTrue_92 : decode b_Op_isTrue 92 = .ok (.if_icmp .ge 7, 3) := by decide +kernel
theorem d_Op_isTrue_95 : decode b_Op_isTrue 95 = .ok (.iconst 1, 1) := by decide +kernel
theorem d_Op_isTrue_96 : decode b_Op_isTrue 96 = .ok (.goto 4, 3) := by decide +kernel
theorem d_Op_isTrue_99 : decode b_Op_isTrue 99 = .ok (.iconst 0, 1) := by decide +kernel
theorem d_Op_isTrue_100 : decode b_Op_isTrue 100 = .ok (.ireturn, 1) := by decide +kernel
theorem d_Op_isTrue_101 : decode b_Op_isTrue 101 = .ok (.lload_n 3, 1) := by decide +kernel
theorem d_Op_isTrue_102 : decode b_Op_isTrue 102 = .ok (.lload 5, 2) := by decide +kernel
theorem d_Op_isTrue_104 : decode b_Op_isTrue 104 = .ok (.lcmp, 1) := by decide +kernel
theorem d_Op_isTrue_105 : decode b_Op_isTrue 105 = .ok (.ifCond .ge 7, 3) := by decide +kernel
theorem d_Op_isTrue_108 : decode b_Op_isTrue 108 = .ok (.iconst 1, 1) := by decide +kernel
theorem d_Op_isTrue_109 : decode b_Op_isTrue 109 = .ok (.goto 4, 3) := by decide +kernel
theorem d_Op_isTrue_112 : decode b_Op_isTrue 112 = .ok (.iconst 0, 1) := by decide +kernel
theorem d_Op_isTrue_113 : decode b_Op_isTrue 113 = .ok (.ireturn, 1) := by decide +kernel
theorem d_Op_isTrue_114 : decode b_Op_isTrue 114 = .ok (.iload_n 1, 1) := by decide +kernel
theorem d_Op_isTrue_115 : decode b_Op_isTrue 115 = .ok (.iload_n 2, 1) := by decide +kernel
theorem d_Op_isTrue_116 : decode b_Op_isTrue 116 = .ok (.if_icmp .le 7, 3) := by decide +kernel
theorem d_Op_isTrue_119 : decode b_Op_isTrue 119 = .ok (.iconst 1, 1) := by decide +kernel
theorem d_Op_isTrue_120 : decode b_Op_isTrue 120 = .ok (.goto 4, 3) := by decide +kernel
theorem d_Op_isTrue_123 : decode b_Op_isTrue 123 = .ok (.iconst 0, 1) := by decide +kernel
theorem d_Op_isTrue_124 : decode b_Op_isTrue 124 = .ok (.ireturn, 1) := by decide +kernel
theorem d_Op_isTrue_125 : decode b_Op_isTrue 125 = .ok (.lload_n 3, 1) := by decide +kernel
theorem d_Op_isTrue_126 : decode b_Op_isTrue 126 = .ok (.lload 5, 2) := by decide +kernel
theorem d_Op_isTrue_128 : decode b_Op_isTrue 128 = .ok (.lcmp, 1) := by decide +kernel
theorem d_Op_isTrue_129 : decode b_Op_isTrue 129 = .ok (.ifCond .le 7, 3) := by decide +kernel
theorem d_Op_isTrue_132 : decode b_Op_isTrue 132 = .ok (.iconst 1, 1) := by decide +kernel
theorem d_Op_isTrue_133 : decode b_Op_isTrue 133 = .ok (.goto 4, 3) := by decide +kernel
theorem d_Op_isTrue_136 : decode b_Op_isTrue 136 = .ok (.iconst 0, 1) := by decide +kernel
theorem d_Op_isTrue_137 : decode b_Op_isTrue 137 = .ok (.ireturn, 1) := by decide +kernel
theorem d_Op_isTrue_138 : decode b_Op_isTrue 138 = .ok (.iload_n 1, 1) := by decide +kernel
theorem d_Op_isTrue_139 : decode b_Op_isTrue 139 = .ok (.iload_n 2, 1) := by decide +kernel
theorem d_Op_isTrue_140 : decode b_Op_isTrue 140 = .ok (.if_icmp .gt 7, 3) := by decide +kernel
theorem d_Op_isTrue_143 : decode b_Op_isTrue 143 = .ok (.iconst 1, 1) := by decide +kernel
theorem d_Op_isTrue_144 : decode b_Op_isTrue 144 = .ok (.goto 4, 3) := by decide +kernel
theorem d_Op_isTrue_147 : decode b_Op_isTrue 147 = .ok (.iconst 0, 1) := by decide +kernel
theorem d_Op_isTrue_148 : decode b_Op_isTrue 148 = .ok (.ireturn, 1) := by decide +kernel
theorem d_Op_isTrue_149 : decode b_Op_isTrue 149 = .ok (.lload_n 3, 1) := by decide +kernel
theorem d_Op_isTrue_150 : decode b_Op_isTrue 150 = .ok (.lload 5, 2) := by decide +kernel
theorem d_Op_isTrue_152 : decode b_Op_isTrue 152 = .ok (.lcmp, 1) := by decide +kernel
theorem d_Op_isTrue_153 : decode b_Op_isTrue 153 = .ok (.ifCond .gt 7, 3) := by decide +kernel
theorem d_Op_isTrue_156 : decode b_Op_isTrue 156 = .ok (.iconst 1, 1) := by decide +kernel
theorem d_Op_isTrue_157 : decode b_Op_isTrue 157 = .ok (.goto 4, 3) := by decide +kernel
theorem d_Op_isTrue_160 : decode b_Op_isTrue 160 = .ok (.iconst 0, 1) := by decide +kernel
theorem d_Op_isTrue_161 : decode b_Op_isTrue 161 = .ok (.ireturn, 1) := by decide +kernel
theorem d_Op_isTrue_162 : decode b_Op_isTrue 162 = .ok (.iload_n 1, 1) := by decide +kernel
theorem d_Op_isTrue_163 : decode b_Op_isTrue 163 = .ok (.iload_n 2, 1) := by decide +kernel
theorem d_Op_isTrue_164 : decode b_Op_isTrue 164 = .ok (.if_icmp .lt 7, 3) := by decide +kernel
theorem d_Op_isTrue_167 : decode b_Op_isTrue 167 = .ok (.iconst 1, 1) := by decide +kernel
theorem d_Op_isTrue_168 : decode b_Op_isTrue 168 = .ok (.goto 4, 3) := by decide +kernel
theorem d_Op_isTrue_171 : decode b_Op_isTrue 171 = .ok (.iconst 0, 1) := by decide +kernel
theorem d_Op_isTrue_172 : decode b_Op_isTrue 172 = .ok (.ireturn, 1) := by decide +kernel
theorem d_Op_isTrue_173 : decode b_Op_isTrue 173 = .ok (.lload_n 3, 1) := by decide +kernel
theorem d_Op_isTrue_174 : decode b_Op_isTrue 174 = .ok (.lload 5, 2) := by decide +kernel
theorem d_Op_isTrue_176 : decode b_Op_isTrue 176 = .ok (.lcmp, 1) := by decide +kernel
theorem d_Op_isTrue_177 : decode b_Op_isTrue 177 = .ok (.ifCond .lt 7, 3) := by decide +kernel
theorem d_Op_isTrue_180 : decode b_Op_isTrue 180 = .ok (.iconst 1, 1) := by decide +kernel
theorem d_Op_isTrue_181 : decode b_Op_isTrue 181 = .ok (.goto 4, 3) := by decide +kernel
theorem d_Op_isTrue_184 : decode b_Op_isTrue 184 = .ok (.iconst 0, 1) := by decide +kernel
theorem d_Op_isTrue_185 : decode b_Op_isTrue 185 = .ok (.ireturn, 1) := by decide +kernel
theorem d_Op_divided_0 : decode b_Op_divided 0 = .ok (.iload_n 0, 1) := by decide +kernel
theorem d_Op_divided_1 : decode b_Op_divided 1 = .ok (.bipush 109, 2) := by decide +kernel
theorem d_Op_divided_3 : decode b_Op_divided 3 = .ok (.if_icmp .eq 9, 3) := by decide +kernel
theorem d_Op_divided_6 : decode b_Op_divided 6 = .ok (.iload_n 0, 1) := by decide +kernel
theorem d_Op_divided_7 : decode b_Op_divided 7 = .ok (.bipush 111, 2) := by decide +kernel
theorem d_Op_divided_9 : decode b_Op_divided 9 = .ok (.if_icmp .ne 7, 3) := by decide +kernel
theorem d_Op_divided_12 : decode b_Op_divided 12 = .ok (.iconst 1, 1) := by decide +kernel
theorem d_Op_divided_13 : decode b_Op_divided 13 = .ok (.goto 4, 3) := by decide +kernel
theorem d_Op_divided_16 : decode b_Op_divided 16 = .ok (.iconst 0, 1) := by decide +kernel
theorem d_Op_divided_17 : decode b_Op_divided 17 = .ok (.istore_n 3, 1) := by decide +kernel
theorem d_Op_divided_18 : decode b_Op_divided 18 = .ok (.iload_n 3, 1) := by decide +kernel
theorem d_Op_divided_19 : decode b_Op_divided 19 = .ok (.ifCond .eq 8, 3) := by decide +kernel
theorem d_Op_divided_22 : decode b_Op_divided 22 = .ok (.iload_n 1, 1) := by decide +kernel
theorem d_Op_divided_23 : decode b_Op_divided 23 = .ok (.i2l, 1) := by decide +kernel
theorem d_Op_divided_24 : decode b_Op_divided 24 = .ok (.goto 9, 3) := by decide +kernel
theorem d_Op_divided_27 : decode b_Op_divided 27 = .ok (.iload_n 1, 1) := by decide +kernel
theorem d_Op_divided_28 : decode b_Op_divided 28 = .ok (.i2l, 1) := by decide +kernel
theorem d_Op_divided_29 : decode b_Op_divided 29 = .ok (.ldc2_w 45, 3) := by decide +kernel
theorem d_Op_divided_32 : decode b_Op_divided 32 = .ok (.land, 1) := by decide +kernel
theorem d_Op_divided_33 : decode b_Op_divided 33 = .ok (.lstore 4, 2) := by decide +kernel
theorem d_Op_divided_35 : decode b_Op_divided 35 = .ok (.iload_n 3, 1) := by decide +kernel
theorem d_Op_divided_36 : decode b_Op_divided 36 = .ok (.ifCond .eq 8, 3) := by decide +kernel
theorem d_Op_divided_39 : decode b_Op_divided 39 = .ok (.iload_n 2, 1) := by decide +kernel
theorem d_Op_divided_40 : decode b_Op_divided 40 = .ok (.i2l, 1) := by decide +kernel
theorem d_Op_divided_41 : decode b_Op_divided 41 = .ok (.goto 9, 3) := by decide +kernel
theorem d_Op_divided_44 : decode b_Op_divided 44 = .ok (.iload_n 2, 1) := by decide +kernel
theorem d_Op_divided_45 : decode b_Op_divided 45 = .ok (.i2l, 1) := by decide +kernel
theorem d_Op_divided_46 : decode b_Op_divided 46 = .ok (.ldc2_w 45, 3) := by decide +kernel
theorem d_Op_divided_49 : decode b_Op_divided 49 = .ok (.land, 1) := by decide +kernel
theorem d_Op_divided_50 : decode b_Op_divided 50 = .ok (.lstore 6, 2) := by decide +kernel
theorem d_Op_divided_52 : decode b_Op_divided 52 = .ok (.lload 6, 2) := by decide +kernel
theorem d_Op_divided_54 : decode b_Op_divided 54 = .ok (.lconst 0, 1) := by decide +kernel
theorem d_Op_divided_55 : decode b_Op_divided 55 = .ok (.lcmp, 1) := by decide +kernel
theorem d_Op_divided_56 : decode b_Op_divided 56 = .ok (.ifCond .ne 5, 3) := by decide +kernel
theorem d_Op_divided_59 : decode b_Op_divided 59 = .ok (.iconst 0, 1) := by decide +kernel
theorem d_Op_divided_60 : decode b_Op_divided 60 = .ok (.ireturn, 1) := by decide +kernel
theorem d_Op_divided_61 : decode b_Op_divided 61 = .ok (.iload_n 0, 1) := by decide +kernel
theorem d_Op_divided_62 : decode b_Op_divided 62 = .ok (.bipush 109, 2) := by decide +kernel
theorem d_Op_divided_64 : decode b_Op_divided 64 = .ok (.if_icmp .eq 9, 3) := by decide +kernel
theorem d_Op_divided_67 : decode b_Op_divided 67 = .ok (.iload_n 0, 1) := by decide +kernel
theorem d_Op_divided_68 : decode b_Op_divided 68 = .ok (.bipush 110, 2) := by decide +kernel
theorem d_Op_divided_70 : decode b_Op_divided 70 = .ok (.if_icmp .ne 11, 3) := by decide +kernel
theorem d_Op_divided_73 : decode b_Op_divided 73 = .ok (.lload 4, 2) := by decide +kernel
theorem d_Op_divided_75 : decode b_Op_divided 75 = .ok (.lload 6, 2) := by decide +kernel
theorem d_Op_divided_77 : decode b_Op_divided 77 = .ok (.ldiv, 1) := by decide +kernel
theorem d_Op_divided_78 : decode b_Op_divided 78 = .ok (.goto 8, 3) := by decide +kernel
theorem d_Op_divided_81 : decode b_Op_divided 81 = .ok (.lload 4, 2) := by decide +kernel
theorem d_Op_divided_83 : decode b_Op_divided 83 = .ok (.lload 6, 2) := by decide +kernel
theorem d_Op_divided_85 : decode b_Op_divided 85 = .ok (.lrem, 1) := by decide +kernel
theorem d_Op_divided_86 : decode b_Op_divided 86 = .ok (.l2i, 1) := by decide +kernel
theorem d_Op_divided_87 : decode b_Op_divided 87 = .ok (.ireturn, 1) := by decide +kernel
theorem d_Op_ofTwo_0 : decode b_Op_ofTwo 0 = .ok (.iload_n 0, 1) := by decide +kernel
theorem d_Op_ofTwo_1 : decode b_Op_ofTwo 1 = .ok (.bipush 70, 2) := by decide +kernel
theorem d_Op_ofTwo_3 : decode b_Op_ofTwo 3 = .ok (.if_icmp .lt 24, 3) := by decide +kernel
theorem d_Op_ofTwo_6 : decode b_Op_ofTwo 6 = .ok (.iload_n 0, 1) := by decide +kernel
theorem d_Op_ofTwo_7 : decode b_Op_ofTwo 7 = .ok (.bipush 79, 2) := by decide +kernel
theorem d_Op_ofTwo_9 : decode b_Op_ofTwo 9 = .ok (.if_icmp .gt 18, 3) := by decide +kernel
theorem d_Op_ofTwo_12 : decode b_Op_ofTwo 12 = .ok (.iload_n 0, 1) := by decide +kernel
theorem d_Op_ofTwo_13 : decode b_Op_ofTwo 13 = .ok (.iload_n 1, 1) := by decide +kernel
theorem d_Op_ofTwo_14 : decode b_Op_ofTwo 14 = .ok (.iload_n 2, 1) := by decide +kernel
theorem d_Op_ofTwo_15 : decode b_Op_ofTwo 15 = .ok (.invokestatic 36, 3) := by decide +kernel
theorem d_Op_ofTwo_18 : decode b_Op_ofTwo 18 = .ok (.ifCond .eq 7, 3) := by decide +kernel
theorem d_Op_ofTwo_21 : decode b_Op_ofTwo 21 = .ok (.iconst 1, 1) := by decide +kernel
theorem d_Op_ofTwo_22 : decode b_Op_ofTwo 22 = .ok (.goto 4, 3) := by decide +kernel
theorem d_Op_ofTwo_25 : decode b_Op_ofTwo 25 = .ok (.iconst 0, 1) := by decide +kernel
theorem d_Op_ofTwo_26 : decode b_Op_ofTwo 26 = .ok (.ireturn, 1) := by decide +kernel
theorem d_Op_ofTwo_27 : decode b_Op_ofTwo 27 = .ok (.iload_n 0, 1) := by decide +kernel
theorem d_Op_ofTwo_28 : decode b_Op_ofTwo 28 = .ok (.tableswitch 130 106 120 #[76, 80, 84, 130, 130, 130, 130, 88, 92, 96, 100, 104, 108, 112, 121], 76) := by decide +kernel
theorem d_Op_ofTwo_104 : decode b_Op_ofTwo 104 = .ok (.iload_n 1, 1) := by decide +kernel
theorem d_Op_ofTwo_105 : decode b_Op_ofTwo 105 = .ok (.iload_n 2, 1) := by decide +kernel
theorem d_Op_ofTwo_106 : decode b_Op_ofTwo 106 = .ok (.iadd, 1) := by decide +kernel
theorem d_Op_ofTwo_107 : decode b_Op_ofTwo 107 = .ok (.ireturn, 1) := by decide +kernel
theorem d_Op_ofTwo_108 : decode b_Op_ofTwo 108 = .ok (.iload_n 1, 1) := by decide +kernel
theorem d_Op_ofTwo_109 : decode b_Op_ofTwo 109 = .ok (.iload_n 2, 1) := by decide +kernel
theorem d_Op_ofTwo_110 : decode b_Op_ofTwo 110 = .ok (.isub, 1) := by decide +kernel
theorem d_Op_ofTwo_111 : decode b_Op_ofTwo 111 = .ok (.ireturn, 1) := by decide +kernel
theorem d_Op_ofTwo_112 : decode b_Op_ofTwo 112 = .ok (.iload_n 1, 1) := by decide +kernel
theorem d_Op_ofTwo_113 : decode b_Op_ofTwo 113 = .ok (.iload_n 2, 1) := by decide +kernel
theorem d_Op_ofTwo_114 : decode b_Op_ofTwo 114 = .ok (.imul, 1) := by decide +kernel
theorem d_Op_ofTwo_115 : decode b_Op_ofTwo 115 = .ok (.ireturn, 1) := by decide +kernel
theorem d_Op_ofTwo_116 : decode b_Op_ofTwo 116 = .ok (.iload_n 1, 1) := by decide +kernel
theorem d_Op_ofTwo_117 : decode b_Op_ofTwo 117 = .ok (.iload_n 2, 1) := by decide +kernel
theorem d_Op_ofTwo_118 : decode b_Op_ofTwo 118 = .ok (.iand, 1) := by decide +kernel
theorem d_Op_ofTwo_119 : decode b_Op_ofTwo 119 = .ok (.ireturn, 1) := by decide +kernel
theorem d_Op_ofTwo_120 : decode b_Op_ofTwo 120 = .ok (.iload_n 1, 1) := by decide +kernel
theorem d_Op_ofTwo_121 : decode b_Op_ofTwo 121 = .ok (.iload_n 2, 1) := by decide +kernel
theorem d_Op_ofTwo_122 : decode b_Op_ofTwo 122 = .ok (.ior, 1) := by decide +kernel
theorem d_Op_ofTwo_123 : decode b_Op_ofTwo 123 = .ok (.ireturn, 1) := by decide +kernel
theorem d_Op_ofTwo_124 : decode b_Op_ofTwo 124 = .ok (.iload_n 1, 1) := by decide +kernel
theorem d_Op_ofTwo_125 : decode b_Op_ofTwo 125 = .ok (.iload_n 2, 1) := by decide +kernel
theorem d_Op_ofTwo_126 : decode b_Op_ofTwo 126 = .ok (.ixor, 1) := by decide +kernel
theorem d_Op_ofTwo_127 : decode b_Op_ofTwo 127 = .ok (.ireturn, 1) := by decide +kernel
theorem d_Op_ofTwo_128 : decode b_Op_ofTwo 128 = .ok (.iload_n 1, 1) := by decide +kernel
theorem d_Op_ofTwo_129 : decode b_Op_ofTwo 129 = .ok (.iload_n 2, 1) := by decide +kernel
theorem d_Op_ofTwo_130 : decode b_Op_ofTwo 130 = .ok (.ishl, 1) := by decide +kernel
theorem d_Op_ofTwo_131 : decode b_Op_ofTwo 131 = .ok (.ireturn, 1) := by decide +kernel
theorem d_Op_ofTwo_132 : decode b_Op_ofTwo 132 = .ok (.iload_n 1, 1) := by decide +kernel
theorem d_Op_ofTwo_133 : decode b_Op_ofTwo 133 = .ok (.iload_n 2, 1) := by decide +kernel
theorem d_Op_ofTwo_134 : decode b_Op_ofTwo 134 = .ok (.ishr, 1) := by decide +kernel
theorem d_Op_ofTwo_135 : decode b_Op_ofTwo 135 = .ok (.ireturn, 1) := by decide +kernel
theorem d_Op_ofTwo_136 : decode b_Op_ofTwo 136 = .ok (.iload_n 1, 1) := by decide +kernel
theorem d_Op_ofTwo_137 : decode b_Op_ofTwo 137 = .ok (.iload_n 2, 1) := by decide +kernel
theorem d_Op_ofTwo_138 : decode b_Op_ofTwo 138 = .ok (.iushr, 1) := by decide +kernel
theorem d_Op_ofTwo_139 : decode b_Op_ofTwo 139 = .ok (.ireturn, 1) := by decide +kernel
theorem d_Op_ofTwo_140 : decode b_Op_ofTwo 140 = .ok (.iload_n 1, 1) := by decide +kernel
theorem d_Op_ofTwo_141 : decode b_Op_ofTwo 141 = .ok (.iload_n 2, 1) := by decide +kernel
theorem d_Op_ofTwo_142 : decode b_Op_ofTwo 142 = .ok (.ishl, 1) := by decide +kernel
theorem d_Op_ofTwo_143 : decode b_Op_ofTwo 143 = .ok (.iload_n 1, 1) := by decide +kernel
theorem d_Op_ofTwo_144 : decode b_Op_ofTwo 144 = .ok (.iload_n 2, 1) := by decide +kernel
theorem d_Op_ofTwo_145 : decode b_Op_ofTwo 145 = .ok (.ineg, 1) := by decide +kernel
theorem d_Op_ofTwo_146 : decode b_Op_ofTwo 146 = .ok (.iushr, 1) := by decide +kernel
theorem d_Op_ofTwo_147 : decode b_Op_ofTwo 147 = .ok (.ior, 1) := by decide +kernel
theorem d_Op_ofTwo_148 : decode b_Op_ofTwo 148 = .ok (.ireturn, 1) := by decide +kernel
theorem d_Op_ofTwo_149 : decode b_Op_ofTwo 149 = .ok (.iload_n 1, 1) := by decide +kernel
theorem d_Op_ofTwo_150 : decode b_Op_ofTwo 150 = .ok (.iload_n 2, 1) := by decide +kernel
theorem d_Op_ofTwo_151 : decode b_Op_ofTwo 151 = .ok (.iushr, 1) := by decide +kernel
theorem d_Op_ofTwo_152 : decode b_Op_ofTwo 152 = .ok (.iload_n 1, 1) := by decide +kernel
theorem d_Op_ofTwo_153 : decode b_Op_ofTwo 153 = .ok (.iload_n 2, 1) := by decide +kernel
theorem d_Op_ofTwo_154 : decode b_Op_ofTwo 154 = .ok (.ineg, 1) := by decide +kernel
theorem d_Op_ofTwo_155 : decode b_Op_ofTwo 155 = .ok (.ishl, 1) := by decide +kernel
theorem d_Op_ofTwo_156 : decode b_Op_ofTwo 156 = .ok (.ior, 1) := by decide +kernel
theorem d_Op_ofTwo_157 : decode b_Op_ofTwo 157 = .ok (.ireturn, 1) := by decide +kernel
theorem d_Op_ofTwo_158 : decode b_Op_ofTwo 158 = .ok (.iload_n 0, 1) := by decide +kernel
theorem d_Op_ofTwo_159 : decode b_Op_ofTwo 159 = .ok (.iload_n 1, 1) := by decide +kernel
theorem d_Op_ofTwo_160 : decode b_Op_ofTwo 160 = .ok (.iload_n 2, 1) := by decide +kernel
theorem d_Op_ofTwo_161 : decode b_Op_ofTwo 161 = .ok (.invokestatic 40, 3) := by decide +kernel
theorem d_Op_ofTwo_164 : decode b_Op_ofTwo 164 = .ok (.ireturn, 1) := by decide +kernel
theorem d_Val_refuse_0 : decode b_Val_refuse 0 = .ok (.aload_n 0, 1) := by decide +kernel
theorem d_Val_refuse_1 : decode b_Val_refuse 1 = .ok (.aload_n 0, 1) := by decide +kernel
theorem d_Val_refuse_2 : decode b_Val_refuse 2 = .ok (.getfield 24, 3) := by decide +kernel
theorem d_Val_refuse_5 : decode b_Val_refuse 5 = .ok (.ifCond .eq 10, 3) := by decide +kernel
theorem d_Val_refuse_8 : decode b_Val_refuse 8 = .ok (.aload_n 0, 1) := by decide +kernel
theorem d_Val_refuse_9 : decode b_Val_refuse 9 = .ok (.getfield 24, 3) := by decide +kernel
theorem d_Val_refuse_12 : decode b_Val_refuse 12 = .ok (.goto 4, 3) := by decide +kernel
theorem d_Val_refuse_15 : decode b_Val_refuse 15 = .ok (.iload_n 1, 1) := by decide +kernel
theorem d_Val_refuse_16 : decode b_Val_refuse 16 = .ok (.putfield 24, 3) := by decide +kernel
theorem d_Val_refuse_19 : decode b_Val_refuse 19 = .ok (.return_, 1) := by decide +kernel
theorem d_Val_judgeTypes_0 : decode b_Val_judgeTypes 0 = .ok (.iconst 0, 1) := by decide +kernel
theorem d_Val_judgeTypes_1 : decode b_Val_judgeTypes 1 = .ok (.istore_n 1, 1) := by decide +kernel
theorem d_Val_judgeTypes_2 : decode b_Val_judgeTypes 2 = .ok (.iload_n 1, 1) := by decide +kernel
theorem d_Val_judgeTypes_3 : decode b_Val_judgeTypes 3 = .ok (.bipush 8, 2) := by decide +kernel
theorem d_Val_judgeTypes_5 : decode b_Val_judgeTypes 5 = .ok (.if_icmp .ge 44, 3) := by decide +kernel
theorem d_Val_judgeTypes_8 : decode b_Val_judgeTypes 8 = .ok (.iload_n 1, 1) := by decide +kernel
theorem d_Val_judgeTypes_9 : decode b_Val_judgeTypes 9 = .ok (.aload_n 0, 1) := by decide +kernel
theorem d_Val_judgeTypes_10 : decode b_Val_judgeTypes 10 = .ok (.getfield 20, 3) := by decide +kernel
theorem d_Val_judgeTypes_13 : decode b_Val_judgeTypes 13 = .ok (.getfield 62, 3) := by decide +kernel
theorem d_Val_judgeTypes_16 : decode b_Val_judgeTypes 16 = .ok (.invokevirtual 46, 3) := by decide +kernel
theorem d_Val_judgeTypes_19 : decode b_Val_judgeTypes 19 = .ok (.if_icmp .ge 30, 3) := by decide +kernel
theorem d_Val_judgeTypes_22 : decode b_Val_judgeTypes 22 = .ok (.aload_n 0, 1) := by decide +kernel
theorem d_Val_judgeTypes_23 : decode b_Val_judgeTypes 23 = .ok (.getfield 20, 3) := by decide +kernel
theorem d_Val_judgeTypes_26 : decode b_Val_judgeTypes 26 = .ok (.getfield 62, 3) := by decide +kernel
theorem d_Val_judgeTypes_29 : decode b_Val_judgeTypes 29 = .ok (.iload_n 1, 1) := by decide +kernel
theorem d_Val_judgeTypes_30 : decode b_Val_judgeTypes 30 = .ok (.iconst 1, 1) := by decide +kernel
theorem d_Val_judgeTypes_31 : decode b_Val_judgeTypes 31 = .ok (.invokevirtual 65, 3) := by decide +kernel
theorem d_Val_judgeTypes_34 : decode b_Val_judgeTypes 34 = .ok (.iconst 1, 1) := by decide +kernel
theorem d_Val_judgeTypes_35 : decode b_Val_judgeTypes 35 = .ok (.if_icmp .le 8, 3) := by decide +kernel
theorem d_Val_judgeTypes_38 : decode b_Val_judgeTypes 38 = .ok (.aload_n 0, 1) := by decide +kernel
theorem d_Val_judgeTypes_39 : decode b_Val_judgeTypes 39 = .ok (.iconst 3, 1) := by decide +kernel
theorem d_Val_judgeTypes_40 : decode b_Val_judgeTypes 40 = .ok (.invokevirtual 39, 3) := by decide +kernel
theorem d_Val_judgeTypes_43 : decode b_Val_judgeTypes 43 = .ok (.iinc 1 1, 3) := by decide +kernel
theorem d_Val_judgeTypes_46 : decode b_Val_judgeTypes 46 = .ok (.goto (-44), 3) := by decide +kernel
theorem d_Val_judgeTypes_49 : decode b_Val_judgeTypes 49 = .ok (.iconst 0, 1) := by decide +kernel
theorem d_Val_judgeTypes_50 : decode b_Val_judgeTypes 50 = .ok (.istore_n 1, 1) := by decide +kernel
theorem d_Val_judgeTypes_51 : decode b_Val_judgeTypes 51 = .ok (.iload_n 1, 1) := by decide +kernel
theorem d_Val_judgeTypes_52 : decode b_Val_judgeTypes 52 = .ok (.bipush 8, 2) := by decide +kernel
theorem d_Val_judgeTypes_54 : decode b_Val_judgeTypes 54 = .ok (.if_icmp .ge 53, 3) := by decide +kernel
theorem d_Val_judgeTypes_57 : decode b_Val_judgeTypes 57 = .ok (.iload_n 1, 1) := by decide +kernel
theorem d_Val_judgeTypes_58 : decode b_Val_judgeTypes 58 = .ok (.aload_n 0, 1) := by decide +kernel
theorem d_Val_judgeTypes_59 : decode b_Val_judgeTypes 59 = .ok (.getfield 20, 3) := by decide +kernel
theorem d_Val_judgeTypes_62 : decode b_Val_judgeTypes 62 = .ok (.getfield 53, 3) := by decide +kernel
theorem d_Val_judgeTypes_65 : decode b_Val_judgeTypes 65 = .ok (.invokevirtual 46, 3) := by decide +kernel
theorem d_Val_judgeTypes_68 : decode b_Val_judgeTypes 68 = .ok (.if_icmp .ge 39, 3) := by decide +kernel
theorem d_Val_judgeTypes_71 : decode b_Val_judgeTypes 71 = .ok (.aload_n 0, 1) := by decide +kernel
theorem d_Val_judgeTypes_72 : decode b_Val_judgeTypes 72 = .ok (.getfield 20, 3) := by decide +kernel
theorem d_Val_judgeTypes_75 : decode b_Val_judgeTypes 75 = .ok (.getfield 62, 3) := by decide +kernel
theorem d_Val_judgeTypes_78 : decode b_Val_judgeTypes 78 = .ok (.aload_n 0, 1) := by decide +kernel
theorem d_Val_judgeTypes_79 : decode b_Val_judgeTypes 79 = .ok (.getfield 20, 3) := by decide +kernel
theorem d_Val_judgeTypes_82 : decode b_Val_judgeTypes 82 = .ok (.getfield 53, 3) := by decide +kernel
theorem d_Val_judgeTypes_85 : decode b_Val_judgeTypes 85 = .ok (.iload_n 1, 1) := by decide +kernel
theorem d_Val_judgeTypes_86 : decode b_Val_judgeTypes 86 = .ok (.iconst 0, 1) := by decide +kernel
theorem d_Val_judgeTypes_87 : decode b_Val_judgeTypes 87 = .ok (.invokevirtual 65, 3) := by decide +kernel
theorem d_Val_judgeTypes_90 : decode b_Val_judgeTypes 90 = .ok (.invokevirtual 69, 3) := by decide +kernel
theorem d_Val_judgeTypes_93 : decode b_Val_judgeTypes 93 = .ok (.ifCond .ne 8, 3) := by decide +kernel
theorem d_Val_judgeTypes_96 : decode b_Val_judgeTypes 96 = .ok (.aload_n 0, 1) := by decide +kernel
theorem d_Val_judgeTypes_97 : decode b_Val_judgeTypes 97 = .ok (.iconst 3, 1) := by decide +kernel
theorem d_Val_judgeTypes_98 : decode b_Val_judgeTypes 98 = .ok (.invokevirtual 39, 3) := by decide +kernel
theorem d_Val_judgeTypes_101 : decode b_Val_judgeTypes 101 = .ok (.iinc 1 1, 3) := by decide +kernel
theorem d_Val_judgeTypes_104 : decode b_Val_judgeTypes 104 = .ok (.goto (-53), 3) := by decide +kernel
theorem d_Val_judgeTypes_107 : decode b_Val_judgeTypes 107 = .ok (.return_, 1) := by decide +kernel
theorem d_Val_isThere_0 : decode b_Val_isThere 0 = .ok (.iload_n 1, 1) := by decide +kernel
theorem d_Val_isThere_1 : decode b_Val_isThere 1 = .ok (.tableswitch 75 0 3 #[31, 75, 43, 63], 31) := by decide +kernel
theorem d_Val_isThere_32 : decode b_Val_isThere 32 = .ok (.aload_n 0, 1) := by decide +kernel
theorem d_Val_isThere_33 : decode b_Val_isThere 33 = .ok (.getfield 20, 3) := by decide +kernel
theorem d_Val_isThere_36 : decode b_Val_isThere 36 = .ok (.getfield 53, 3) := by decide +kernel
theorem d_Val_isThere_39 : decode b_Val_isThere 39 = .ok (.iload_n 2, 1) := by decide +kernel
theorem d_Val_isThere_40 : decode b_Val_isThere 40 = .ok (.invokevirtual 69, 3) := by decide +kernel
theorem d_Val_isThere_43 : decode b_Val_isThere 43 = .ok (.ireturn, 1) := by decide +kernel
theorem d_Val_isThere_44 : decode b_Val_isThere 44 = .ok (.aload_n 0, 1) := by decide +kernel
theorem d_Val_isThere_45 : decode b_Val_isThere 45 = .ok (.getfield 20, 3) := by decide +kernel
theorem d_Val_isThere_48 : decode b_Val_isThere 48 = .ok (.getfield 80, 3) := by decide +kernel
theorem d_Val_isThere_51 : decode b_Val_isThere 51 = .ok (.ifCond .eq 11, 3) := by decide +kernel
theorem d_Val_isThere_54 : decode b_Val_isThere 54 = .ok (.iload_n 2, 1) := by decide +kernel
theorem d_Val_isThere_55 : decode b_Val_isThere 55 = .ok (.ifCond .ne 7, 3) := by decide +kernel
theorem d_Val_isThere_58 : decode b_Val_isThere 58 = .ok (.iconst 1, 1) := by decide +kernel
theorem d_Val_isThere_59 : decode b_Val_isThere 59 = .ok (.goto 4, 3) := by decide +kernel
theorem d_Val_isThere_62 : decode b_Val_isThere 62 = .ok (.iconst 0, 1) := by decide +kernel
theorem d_Val_isThere_63 : decode b_Val_isThere 63 = .ok (.ireturn, 1) := by decide +kernel
theorem d_Val_isThere_64 : decode b_Val_isThere 64 = .ok (.aload_n 0, 1) := by decide +kernel
theorem d_Val_isThere_65 : decode b_Val_isThere 65 = .ok (.getfield 20, 3) := by decide +kernel
theorem d_Val_isThere_68 : decode b_Val_isThere 68 = .ok (.getfield 84, 3) := by decide +kernel
theorem d_Val_isThere_71 : decode b_Val_isThere 71 = .ok (.iload_n 2, 1) := by decide +kernel
theorem d_Val_isThere_72 : decode b_Val_isThere 72 = .ok (.invokevirtual 69, 3) := by decide +kernel
theorem d_Val_isThere_75 : decode b_Val_isThere 75 = .ok (.ireturn, 1) := by decide +kernel
theorem d_Val_isThere_76 : decode b_Val_isThere 76 = .ok (.iconst 0, 1) := by decide +kernel
theorem d_Val_isThere_77 : decode b_Val_isThere 77 = .ok (.ireturn, 1) := by decide +kernel
theorem d_Val_haveSameName_0 : decode b_Val_haveSameName 0 = .ok (.aload_n 0, 1) := by decide +kernel
theorem d_Val_haveSameName_1 : decode b_Val_haveSameName 1 = .ok (.getfield 20, 3) := by decide +kernel
theorem d_Val_haveSameName_4 : decode b_Val_haveSameName 4 = .ok (.getfield 43, 3) := by decide +kernel
theorem d_Val_haveSameName_7 : decode b_Val_haveSameName 7 = .ok (.iload_n 1, 1) := by decide +kernel
theorem d_Val_haveSameName_8 : decode b_Val_haveSameName 8 = .ok (.iconst 2, 1) := by decide +kernel
theorem d_Val_haveSameName_9 : decode b_Val_haveSameName 9 = .ok (.invokevirtual 65, 3) := by decide +kernel
theorem d_Val_haveSameName_12 : decode b_Val_haveSameName 12 = .ok (.aload_n 0, 1) := by decide +kernel
theorem d_Val_haveSameName_13 : decode b_Val_haveSameName 13 = .ok (.getfield 20, 3) := by decide +kernel
theorem d_Val_haveSameName_16 : decode b_Val_haveSameName 16 = .ok (.getfield 43, 3) := by decide +kernel
theorem d_Val_haveSameName_19 : decode b_Val_haveSameName 19 = .ok (.iload_n 2, 1) := by decide +kernel
theorem d_Val_haveSameName_20 : decode b_Val_haveSameName 20 = .ok (.iconst 2, 1) := by decide +kernel
theorem d_Val_haveSameName_21 : decode b_Val_haveSameName 21 = .ok (.invokevirtual 65, 3) := by decide +kernel
theorem d_Val_haveSameName_24 : decode b_Val_haveSameName 24 = .ok (.if_icmp .ne 7, 3) := by decide +kernel
theorem d_Val_haveSameName_27 : decode b_Val_haveSameName 27 = .ok (.iconst 1, 1) := by decide +kernel
theorem d_Val_haveSameName_28 : decode b_Val_haveSameName 28 = .ok (.goto 4, 3) := by decide +kernel
theorem d_Val_haveSameName_31 : decode b_Val_haveSameName 31 = .ok (.iconst 0, 1) := by decide +kernel
theorem d_Val_haveSameName_32 : decode b_Val_haveSameName 32 = .ok (.istore_n 3, 1) := by decide +kernel
theorem d_Val_haveSameName_33 : decode b_Val_haveSameName 33 = .ok (.iconst 0, 1) := by decide +kernel
theorem d_Val_haveSameName_34 : decode b_Val_haveSameName 34 = .ok (.istore 4, 2) := by decide +kernel
theorem d_Val_haveSameName_36 : decode b_Val_haveSameName 36 = .ok (.iload 4, 2) := by decide +kernel
theorem d_Val_haveSameName_38 : decode b_Val_haveSameName 38 = .ok (.bipush 8, 2) := by decide +kernel
theorem d_Val_haveSameName_40 : decode b_Val_haveSameName 40 = .ok (.if_icmp .ge 52, 3) := by decide +kernel
theorem d_Val_haveSameName_43 : decode b_Val_haveSameName 43 = .ok (.iload_n 3, 1) := by decide +kernel
theorem d_Val_haveSameName_44 : decode b_Val_haveSameName 44 = .ok (.ifCond .eq 40, 3) := by decide +kernel
theorem d_Val_haveSameName_47 : decode b_Val_haveSameName 47 = .ok (.aload_n 0, 1) := by decide +kernel
theorem d_Val_haveSameName_48 : decode b_Val_haveSameName 48 = .ok (.getfield 20, 3) := by decide +kernel
theorem d_Val_haveSameName_51 : decode b_Val_haveSameName 51 = .ok (.getfield 43, 3) := by decide +kernel
theorem d_Val_haveSameName_54 : decode b_Val_haveSameName 54 = .ok (.iload_n 1, 1) := by decide +kernel
theorem d_Val_haveSameName_55 : decode b_Val_haveSameName 55 = .ok (.iconst 3, 1) := by decide +kernel
theorem d_Val_haveSameName_56 : decode b_Val_haveSameName 56 = .ok (.iload 4, 2) := by decide +kernel
theorem d_Val_haveSameName_58 : decode b_Val_haveSameName 58 = .ok (.iadd, 1) := by decide +kernel
theorem d_Val_haveSameName_59 : decode b_Val_haveSameName 59 = .ok (.invokevirtual 65, 3) := by decide +kernel
theorem d_Val_haveSameName_62 : decode b_Val_haveSameName 62 = .ok (.aload_n 0, 1) := by decide +kernel
theorem d_Val_haveSameName_63 : decode b_Val_haveSameName 63 = .ok (.getfield 20, 3) := by decide +kernel
theorem d_Val_haveSameName_66 : decode b_Val_haveSameName 66 = .ok (.getfield 43, 3) := by decide +kernel
theorem d_Val_haveSameName_69 : decode b_Val_haveSameName 69 = .ok (.iload_n 2, 1) := by decide +kernel
theorem d_Val_haveSameName_70 : decode b_Val_haveSameName 70 = .ok (.iconst 3, 1) := by decide +kernel
theorem d_Val_haveSameName_71 : decode b_Val_haveSameName 71 = .ok (.iload 4, 2) := by decide +kernel
theorem d_Val_haveSameName_73 : decode b_Val_haveSameName 73 = .ok (.iadd, 1) := by decide +kernel
theorem d_Val_haveSameName_74 : decode b_Val_haveSameName 74 = .ok (.invokevirtual 65, 3) := by decide +kernel
theorem d_Val_haveSameName_77 : decode b_Val_haveSameName 77 = .ok (.if_icmp .ne 7, 3) := by decide +kernel
theorem d_Val_haveSameName_80 : decode b_Val_haveSameName 80 = .ok (.iconst 1, 1) := by decide +kernel
theorem d_Val_haveSameName_81 : decode b_Val_haveSameName 81 = .ok (.goto 4, 3) := by decide +kernel
theorem d_Val_haveSameName_84 : decode b_Val_haveSameName 84 = .ok (.iconst 0, 1) := by decide +kernel
theorem d_Val_haveSameName_85 : decode b_Val_haveSameName 85 = .ok (.istore_n 3, 1) := by decide +kernel
theorem d_Val_haveSameName_86 : decode b_Val_haveSameName 86 = .ok (.iinc 4 1, 3) := by decide +kernel
theorem d_Val_haveSameName_89 : decode b_Val_haveSameName 89 = .ok (.goto (-53), 3) := by decide +kernel
theorem d_Val_haveSameName_92 : decode b_Val_haveSameName 92 = .ok (.iload_n 3, 1) := by decide +kernel
theorem d_Val_haveSameName_93 : decode b_Val_haveSameName 93 = .ok (.ireturn, 1) := by decide +kernel
theorem d_Val_judgeExport_0 : decode b_Val_judgeExport 0 = .ok (.aload_n 0, 1) := by decide +kernel
theorem d_Val_judgeExport_1 : decode b_Val_judgeExport 1 = .ok (.aload_n 0, 1) := by decide +kernel
theorem d_Val_judgeExport_2 : decode b_Val_judgeExport 2 = .ok (.getfield 20, 3) := by decide +kernel
theorem d_Val_judgeExport_5 : decode b_Val_judgeExport 5 = .ok (.getfield 43, 3) := by decide +kernel
theorem d_Val_judgeExport_8 : decode b_Val_judgeExport 8 = .ok (.iload_n 1, 1) := by decide +kernel
theorem d_Val_judgeExport_9 : decode b_Val_judgeExport 9 = .ok (.iconst 0, 1) := by decide +kernel
theorem d_Val_judgeExport_10 : decode b_Val_judgeExport 10 = .ok (.invokevirtual 65, 3) := by decide +kernel
theorem d_Val_judgeExport_13 : decode b_Val_judgeExport 13 = .ok (.aload_n 0, 1) := by decide +kernel
theorem d_Val_judgeExport_14 : decode b_Val_judgeExport 14 = .ok (.getfield 20, 3) := by decide +kernel
theorem d_Val_judgeExport_17 : decode b_Val_judgeExport 17 = .ok (.getfield 43, 3) := by decide +kernel
theorem d_Val_judgeExport_20 : decode b_Val_judgeExport 20 = .ok (.iload_n 1, 1) := by decide +kernel
theorem d_Val_judgeExport_21 : decode b_Val_judgeExport 21 = .ok (.iconst 1, 1) := by decide +kernel
theorem d_Val_judgeExport_22 : decode b_Val_judgeExport 22 = .ok (.invokevirtual 65, 3) := by decide +kernel
theorem d_Val_judgeExport_25 : decode b_Val_judgeExport 25 = .ok (.invokevirtual 73, 3) := by decide +kernel
theorem d_Val_judgeExport_28 : decode b_Val_judgeExport 28 = .ok (.ifCond .ne 8, 3) := by decide +kernel
theorem d_Val_judgeExport_31 : decode b_Val_judgeExport 31 = .ok (.aload_n 0, 1) := by decide +kernel
theorem d_Val_judgeExport_32 : decode b_Val_judgeExport 32 = .ok (.iconst 3, 1) := by decide +kernel
theorem d_Val_judgeExport_33 : decode b_Val_judgeExport 33 = .ok (.invokevirtual 39, 3) := by decide +kernel
theorem d_Val_judgeExport_36 : decode b_Val_judgeExport 36 = .ok (.iconst 0, 1) := by decide +kernel
theorem d_Val_judgeExport_37 : decode b_Val_judgeExport 37 = .ok (.istore_n 2, 1) := by decide +kernel
theorem d_Val_judgeExport_38 : decode b_Val_judgeExport 38 = .ok (.iload_n 2, 1) := by decide +kernel
theorem d_Val_judgeExport_39 : decode b_Val_judgeExport 39 = .ok (.iload_n 1, 1) := by decide +kernel
theorem d_Val_judgeExport_40 : decode b_Val_judgeExport 40 = .ok (.if_icmp .ge 23, 3) := by decide +kernel
theorem d_Val_judgeExport_43 : decode b_Val_judgeExport 43 = .ok (.aload_n 0, 1) := by decide +kernel
theorem d_Val_judgeExport_44 : decode b_Val_judgeExport 44 = .ok (.iload_n 2, 1) := by decide +kernel
theorem d_Val_judgeExport_45 : decode b_Val_judgeExport 45 = .ok (.iload_n 1, 1) := by decide +kernel
theorem d_Val_judgeExport_46 : decode b_Val_judgeExport 46 = .ok (.invokevirtual 77, 3) := by decide +kernel
theorem d_Val_judgeExport_49 : decode b_Val_judgeExport 49 = .ok (.ifCond .eq 8, 3) := by decide +kernel
theorem d_Val_judgeExport_52 : decode b_Val_judgeExport 52 = .ok (.aload_n 0, 1) := by decide +kernel
theorem d_Val_judgeExport_53 : decode b_Val_judgeExport 53 = .ok (.iconst 3, 1) := by decide +kernel
theorem d_Val_judgeExport_54 : decode b_Val_judgeExport 54 = .ok (.invokevirtual 39, 3) := by decide +kernel
theorem d_Val_judgeExport_57 : decode b_Val_judgeExport 57 = .ok (.iinc 2 1, 3) := by decide +kernel
theorem d_Val_judgeExport_60 : decode b_Val_judgeExport 60 = .ok (.goto (-22), 3) := by decide +kernel
theorem d_Val_judgeExport_63 : decode b_Val_judgeExport 63 = .ok (.return_, 1) := by decide +kernel
theorem d_Val_inner_0 : decode b_Val_inner 0 = .ok (.aload_n 0, 1) := by decide +kernel
theorem d_Val_inner_1 : decode b_Val_inner 1 = .ok (.getfield 14, 3) := by decide +kernel
theorem d_Val_inner_4 : decode b_Val_inner 4 = .ok (.aload_n 0, 1) := by decide +kernel
theorem d_Val_inner_5 : decode b_Val_inner 5 = .ok (.getfield 99, 3) := by decide +kernel
theorem d_Val_inner_8 : decode b_Val_inner 8 = .ok (.iconst 1, 1) := by decide +kernel
theorem d_Val_inner_9 : decode b_Val_inner 9 = .ok (.isub, 1) := by decide +kernel
theorem d_Val_inner_10 : decode b_Val_inner 10 = .ok (.iload_n 1, 1) := by decide +kernel
theorem d_Val_inner_11 : decode b_Val_inner 11 = .ok (.invokevirtual 65, 3) := by decide +kernel
theorem d_Val_inner_14 : decode b_Val_inner 14 = .ok (.ireturn, 1) := by decide +kernel
theorem d_Val_isAlive_0 : decode b_Val_isAlive 0 = .ok (.aload_n 0, 1) := by decide +kernel
theorem d_Val_isAlive_1 : decode b_Val_isAlive 1 = .ok (.iconst 5, 1) := by decide +kernel
theorem d_Val_isAlive_2 : decode b_Val_isAlive 2 = .ok (.invokevirtual 124, 3) := by decide +kernel
theorem d_Val_isAlive_5 : decode b_Val_isAlive 5 = .ok (.ifCond .eq 15, 3) := by decide +kernel
theorem d_Val_isAlive_8 : decode b_Val_isAlive 8 = .ok (.aload_n 0, 1) := by decide +kernel
theorem d_Val_isAlive_9 : decode b_Val_isAlive 9 = .ok (.iconst 4, 1) := by decide +kernel
theorem d_Val_isAlive_10 : decode b_Val_isAlive 10 = .ok (.invokevirtual 124, 3) := by decide +kernel
theorem d_Val_isAlive_13 : decode b_Val_isAlive 13 = .ok (.ifCond .ne 7, 3) := by decide +kernel
theorem d_Val_isAlive_16 : decode b_Val_isAlive 16 = .ok (.iconst 1, 1) := by decide +kernel
theorem d_Val_isAlive_17 : decode b_Val_isAlive 17 = .ok (.goto 4, 3) := by decide +kernel
theorem d_Val_isAlive_20 : decode b_Val_isAlive 20 = .ok (.iconst 0, 1) := by decide +kernel
theorem d_Val_isAlive_21 : decode b_Val_isAlive 21 = .ok (.ireturn, 1) := by decide +kernel
theorem d_Val_openBlock_0 : decode b_Val_openBlock 0 = .ok (.aload_n 0, 1) := by decide +kernel
theorem d_Val_openBlock_1 : decode b_Val_openBlock 1 = .ok (.getfield 99, 3) := by decide +kernel
theorem d_Val_openBlock_4 : decode b_Val_openBlock 4 = .ok (.ifCond .ne 7, 3) := by decide +kernel
theorem d_Val_openBlock_7 : decode b_Val_openBlock 7 = .ok (.iconst 1, 1) := by decide +kernel
theorem d_Val_openBlock_8 : decode b_Val_openBlock 8 = .ok (.goto 7, 3) := by decide +kernel
theorem d_Val_openBlock_11 : decode b_Val_openBlock 11 = .ok (.aload_n 0, 1) := by decide +kernel
theorem d_Val_openBlock_12 : decode b_Val_openBlock 12 = .ok (.invokevirtual 118, 3) := by decide +kernel
theorem d_Val_openBlock_15 : decode b_Val_openBlock 15 = .ok (.istore 4, 2) := by decide +kernel
theorem d_Val_openBlock_17 : decode b_Val_openBlock 17 = .ok (.aload_n 0, 1) := by decide +kernel
theorem d_Val_openBlock_18 : decode b_Val_openBlock 18 = .ok (.getfield 14, 3) := by decide +kernel
theorem d_Val_openBlock_21 : decode b_Val_openBlock 21 = .ok (.aload_n 0, 1) := by decide +kernel
theorem d_Val_openBlock_22 : decode b_Val_openBlock 22 = .ok (.getfield 99, 3) := by decide +kernel
theorem d_Val_openBlock_25 : decode b_Val_openBlock 25 = .ok (.iconst 0, 1) := by decide +kernel
theorem d_Val_openBlock_26 : decode b_Val_openBlock 26 = .ok (.aload_n 0, 1) := by decide +kernel
theorem d_Val_openBlock_27 : decode b_Val_openBlock 27 = .ok (.getfield 96, 3) := by decide +kernel
theorem d_Val_openBlock_30 : decode b_Val_openBlock 30 = .ok (.invokevirtual 115, 3) := by decide +kernel
theorem d_Val_openBlock_33 : decode b_Val_openBlock 33 = .ok (.aload_n 0, 1) := by decide +kernel
theorem d_Val_openBlock_34 : decode b_Val_openBlock 34 = .ok (.getfield 14, 3) := by decide +kernel
theorem d_Val_openBlock_37 : decode b_Val_openBlock 37 = .ok (.aload_n 0, 1) := by decide +kernel
theorem d_Val_openBlock_38 : decode b_Val_openBlock 38 = .ok (.getfield 99, 3) := by decide +kernel
theorem d_Val_openBlock_41 : decode b_Val_openBlock 41 = .ok (.iconst 1, 1) := by decide +kernel
theorem d_Val_openBlock_42 : decode b_Val_openBlock 42 = .ok (.iload_n 2, 1) := by decide +kernel
theorem d_Val_openBlock_43 : decode b_Val_openBlock 43 = .ok (.invokevirtual 115, 3) := by decide +kernel
theorem d_Val_openBlock_46 : decode b_Val_openBlock 46 = .ok (.aload_n 0, 1) := by decide +kernel
theorem d_Val_openBlock_47 : decode b_Val_openBlock 47 = .ok (.getfield 14, 3) := by decide +kernel
theorem d_Val_openBlock_50 : decode b_Val_openBlock 50 = .ok (.aload_n 0, 1) := by decide +kernel
theorem d_Val_openBlock_51 : decode b_Val_openBlock 51 = .ok (.getfield 99, 3) := by decide +kernel
theorem d_Val_openBlock_54 : decode b_Val_openBlock 54 = .ok (.iconst 2, 1) := by decide +kernel
theorem d_Val_openBlock_55 : decode b_Val_openBlock 55 = .ok (.iload_n 3, 1) := by decide +kernel
theorem d_Val_openBlock_56 : decode b_Val_openBlock 56 = .ok (.invokevirtual 115, 3) := by decide +kernel
theorem d_Val_openBlock_59 : decode b_Val_openBlock 59 = .ok (.aload_n 0, 1) := by decide +kernel
theorem d_Val_openBlock_60 : decode b_Val_openBlock 60 = .ok (.getfield 14, 3) := by decide +kernel
theorem d_Val_openBlock_63 : decode b_Val_openBlock 63 = .ok (.aload_n 0, 1) := by decide +kernel
theorem d_Val_openBlock_64 : decode b_Val_openBlock 64 = .ok (.getfield 99, 3) := by decide +kernel
theorem d_Val_openBlock_67 : decode b_Val_openBlock 67 = .ok (.iconst 3, 1) := by decide +kernel
theorem d_Val_openBlock_68 : decode b_Val_openBlock 68 = .ok (.iload_n 1, 1) := by decide +kernel
theorem d_Val_openBlock_69 : decode b_Val_openBlock 69 = .ok (.invokevirtual 115, 3) := by decide +kernel
theorem d_Val_openBlock_72 : decode b_Val_openBlock 72 = .ok (.aload_n 0, 1) := by decide +kernel
theorem d_Val_openBlock_73 : decode b_Val_openBlock 73 = .ok (.getfield 14, 3) := by decide +kernel
theorem d_Val_openBlock_76 : decode b_Val_openBlock 76 = .ok (.aload_n 0, 1) := by decide +kernel
theorem d_Val_openBlock_77 : decode b_Val_openBlock 77 = .ok (.getfield 99, 3) := by decide +kernel
theorem d_Val_openBlock_80 : decode b_Val_openBlock 80 = .ok (.iconst 4, 1) := by decide +kernel
theorem d_Val_openBlock_81 : decode b_Val_openBlock 81 = .ok (.iconst 0, 1) := by decide +kernel
theorem d_Val_openBlock_82 : decode b_Val_openBlock 82 = .ok (.invokevirtual 115, 3) := by decide +kernel
theorem d_Val_openBlock_85 : decode b_Val_openBlock 85 = .ok (.aload_n 0, 1) := by decide +kernel
theorem d_Val_openBlock_86 : decode b_Val_openBlock 86 = .ok (.getfield 14, 3) := by decide +kernel
theorem d_Val_openBlock_89 : decode b_Val_openBlock 89 = .ok (.aload_n 0, 1) := by decide +kernel
theorem d_Val_openBlock_90 : decode b_Val_openBlock 90 = .ok (.getfield 99, 3) := by decide +kernel
theorem d_Val_openBlock_93 : decode b_Val_openBlock 93 = .ok (.iconst 5, 1) := by decide +kernel
theorem d_Val_openBlock_94 : decode b_Val_openBlock 94 = .ok (.iload 4, 2) := by decide +kernel
theorem d_Val_openBlock_96 : decode b_Val_openBlock 96 = .ok (.invokevirtual 115, 3) := by decide +kernel
theorem d_Val_openBlock_99 : decode b_Val_openBlock 99 = .ok (.aload_n 0, 1) := by decide +kernel
theorem d_Val_openBlock_100 : decode b_Val_openBlock 100 = .ok (.dup, 1) := by decide +kernel
theorem d_Val_openBlock_101 : decode b_Val_openBlock 101 = .ok (.getfield 99, 3) := by decide +kernel
theorem d_Val_openBlock_104 : decode b_Val_openBlock 104 = .ok (.iconst 1, 1) := by decide +kernel
theorem d_Val_openBlock_105 : decode b_Val_openBlock 105 = .ok (.iadd, 1) := by decide +kernel
theorem d_Val_openBlock_106 : decode b_Val_openBlock 106 = .ok (.putfield 99, 3) := by decide +kernel
theorem d_Val_openBlock_109 : decode b_Val_openBlock 109 = .ok (.return_, 1) := by decide +kernel
