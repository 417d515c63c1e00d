theorem d_Rd_turnBlock_0 : decode b_Rd_turnBlock 0 = .ok (.aload_n 0, 1) := by decide +kernel
theorem d_Rd_turnBlock_1 : decode b_Rd_turnBlock 1 = .ok (.getfield 20, 3) := by decide +kernel
theorem d_Rd_turnBlock_4 : decode b_Rd_turnBlock 4 = .ok (.aload_n 0, 1) := by decide +kernel
theorem d_Rd_turnBlock_5 : decode b_Rd_turnBlock 5 = .ok (.getfield 164, 3) := by decide +kernel
theorem d_Rd_turnBlock_8 : decode b_Rd_turnBlock 8 = .ok (.iconst 1, 1) := by decide +kernel
theorem d_Rd_turnBlock_9 : decode b_Rd_turnBlock 9 = .ok (.isub, 1) := by decide +kernel
theorem d_Rd_turnBlock_10 : decode b_Rd_turnBlock 10 = .ok (.invokevirtual 198, 3) := by decide +kernel
theorem d_Rd_turnBlock_13 : decode b_Rd_turnBlock 13 = .ok (.istore_n 2, 1) := by decide +kernel
theorem d_Rd_turnBlock_14 : decode b_Rd_turnBlock 14 = .ok (.aload_n 0, 1) := by decide +kernel
theorem d_Rd_turnBlock_15 : decode b_Rd_turnBlock 15 = .ok (.getfield 24, 3) := by decide +kernel
theorem d_Rd_turnBlock_18 : decode b_Rd_turnBlock 18 = .ok (.getfield 159, 3) := by decide +kernel
theorem d_Rd_turnBlock_21 : decode b_Rd_turnBlock 21 = .ok (.iload_n 2, 1) := by decide +kernel
theorem d_Rd_turnBlock_22 : decode b_Rd_turnBlock 22 = .ok (.iconst 0, 1) := by decide +kernel
theorem d_Rd_turnBlock_23 : decode b_Rd_turnBlock 23 = .ok (.invokevirtual 201, 3) := by decide +kernel
theorem d_Rd_turnBlock_26 : decode b_Rd_turnBlock 26 = .ok (.iconst 4, 1) := by decide +kernel
theorem d_Rd_turnBlock_27 : decode b_Rd_turnBlock 27 = .ok (.if_icmp .ne 18, 3) := by decide +kernel
theorem d_Rd_turnBlock_30 : decode b_Rd_turnBlock 30 = .ok (.aload_n 0, 1) := by decide +kernel
theorem d_Rd_turnBlock_31 : decode b_Rd_turnBlock 31 = .ok (.getfield 24, 3) := by decide +kernel
theorem d_Rd_turnBlock_34 : decode b_Rd_turnBlock 34 = .ok (.getfield 159, 3) := by decide +kernel
theorem d_Rd_turnBlock_37 : decode b_Rd_turnBlock 37 = .ok (.iload_n 2, 1) := by decide +kernel
theorem d_Rd_turnBlock_38 : decode b_Rd_turnBlock 38 = .ok (.iconst 3, 1) := by decide +kernel
theorem d_Rd_turnBlock_39 : decode b_Rd_turnBlock 39 = .ok (.invokevirtual 201, 3) := by decide +kernel
theorem d_Rd_turnBlock_42 : decode b_Rd_turnBlock 42 = .ok (.ifCond .eq 8, 3) := by decide +kernel
theorem d_Rd_turnBlock_45 : decode b_Rd_turnBlock 45 = .ok (.aload_n 0, 1) := by decide +kernel
theorem d_Rd_turnBlock_46 : decode b_Rd_turnBlock 46 = .ok (.iconst 1, 1) := by decide +kernel
theorem d_Rd_turnBlock_47 : decode b_Rd_turnBlock 47 = .ok (.invokevirtual 75, 3) := by decide +kernel
theorem d_Rd_turnBlock_50 : decode b_Rd_turnBlock 50 = .ok (.aload_n 0, 1) := by decide +kernel
theorem d_Rd_turnBlock_51 : decode b_Rd_turnBlock 51 = .ok (.getfield 24, 3) := by decide +kernel
theorem d_Rd_turnBlock_54 : decode b_Rd_turnBlock 54 = .ok (.getfield 159, 3) := by decide +kernel
theorem d_Rd_turnBlock_57 : decode b_Rd_turnBlock 57 = .ok (.iload_n 2, 1) := by decide +kernel
theorem d_Rd_turnBlock_58 : decode b_Rd_turnBlock 58 = .ok (.iconst 3, 1) := by decide +kernel
theorem d_Rd_turnBlock_59 : decode b_Rd_turnBlock 59 = .ok (.iload_n 1, 1) := by decide +kernel
theorem d_Rd_turnBlock_60 : decode b_Rd_turnBlock 60 = .ok (.invokevirtual 98, 3) := by decide +kernel
theorem d_Rd_turnBlock_63 : decode b_Rd_turnBlock 63 = .ok (.return_, 1) := by decide +kernel
theorem d_Rd_closeBlock_0 : decode b_Rd_closeBlock 0 = .ok (.aload_n 0, 1) := by decide +kernel
theorem d_Rd_closeBlock_1 : decode b_Rd_closeBlock 1 = .ok (.dup, 1) := by decide +kernel
theorem d_Rd_closeBlock_2 : decode b_Rd_closeBlock 2 = .ok (.getfield 164, 3) := by decide +kernel
theorem d_Rd_closeBlock_5 : decode b_Rd_closeBlock 5 = .ok (.iconst 1, 1) := by decide +kernel
theorem d_Rd_closeBlock_6 : decode b_Rd_closeBlock 6 = .ok (.isub, 1) := by decide +kernel
theorem d_Rd_closeBlock_7 : decode b_Rd_closeBlock 7 = .ok (.putfield 164, 3) := by decide +kernel
theorem d_Rd_closeBlock_10 : decode b_Rd_closeBlock 10 = .ok (.aload_n 0, 1) := by decide +kernel
theorem d_Rd_closeBlock_11 : decode b_Rd_closeBlock 11 = .ok (.getfield 20, 3) := by decide +kernel
theorem d_Rd_closeBlock_14 : decode b_Rd_closeBlock 14 = .ok (.aload_n 0, 1) := by decide +kernel
theorem d_Rd_closeBlock_15 : decode b_Rd_closeBlock 15 = .ok (.getfield 164, 3) := by decide +kernel
theorem d_Rd_closeBlock_18 : decode b_Rd_closeBlock 18 = .ok (.invokevirtual 198, 3) := by decide +kernel
theorem d_Rd_closeBlock_21 : decode b_Rd_closeBlock 21 = .ok (.istore_n 2, 1) := by decide +kernel
theorem d_Rd_closeBlock_22 : decode b_Rd_closeBlock 22 = .ok (.aload_n 0, 1) := by decide +kernel
theorem d_Rd_closeBlock_23 : decode b_Rd_closeBlock 23 = .ok (.getfield 24, 3) := by decide +kernel
theorem d_Rd_closeBlock_26 : decode b_Rd_closeBlock 26 = .ok (.getfield 159, 3) := by decide +kernel
theorem d_Rd_closeBlock_29 : decode b_Rd_closeBlock 29 = .ok (.iload_n 2, 1) := by decide +kernel
theorem d_Rd_closeBlock_30 : decode b_Rd_closeBlock 30 = .ok (.iconst 3, 1) := by decide +kernel
theorem d_Rd_closeBlock_31 : decode b_Rd_closeBlock 31 = .ok (.invokevirtual 201, 3) := by decide +kernel
theorem d_Rd_closeBlock_34 : decode b_Rd_closeBlock 34 = .ok (.istore_n 3, 1) := by decide +kernel
theorem d_Rd_closeBlock_35 : decode b_Rd_closeBlock 35 = .ok (.aload_n 0, 1) := by decide +kernel
theorem d_Rd_closeBlock_36 : decode b_Rd_closeBlock 36 = .ok (.getfield 24, 3) := by decide +kernel
theorem d_Rd_closeBlock_39 : decode b_Rd_closeBlock 39 = .ok (.getfield 159, 3) := by decide +kernel
theorem d_Rd_closeBlock_42 : decode b_Rd_closeBlock 42 = .ok (.iload_n 3, 1) := by decide +kernel
theorem d_Rd_closeBlock_43 : decode b_Rd_closeBlock 43 = .ok (.ifCond .eq 7, 3) := by decide +kernel
theorem d_Rd_closeBlock_46 : decode b_Rd_closeBlock 46 = .ok (.iload_n 3, 1) := by decide +kernel
theorem d_Rd_closeBlock_47 : decode b_Rd_closeBlock 47 = .ok (.goto 4, 3) := by decide +kernel
theorem d_Rd_closeBlock_50 : decode b_Rd_closeBlock 50 = .ok (.iload_n 2, 1) := by decide +kernel
theorem d_Rd_closeBlock_51 : decode b_Rd_closeBlock 51 = .ok (.iconst 3, 1) := by decide +kernel
theorem d_Rd_closeBlock_52 : decode b_Rd_closeBlock 52 = .ok (.iload_n 1, 1) := by decide +kernel
theorem d_Rd_closeBlock_53 : decode b_Rd_closeBlock 53 = .ok (.invokevirtual 98, 3) := by decide +kernel
theorem d_Rd_closeBlock_56 : decode b_Rd_closeBlock 56 = .ok (.return_, 1) := by decide +kernel
theorem d_Rd_readPlaces_0 : decode b_Rd_readPlaces 0 = .ok (.aload_n 0, 1) := by decide +kernel
theorem d_Rd_readPlaces_1 : decode b_Rd_readPlaces 1 = .ok (.invokevirtual 85, 3) := by decide +kernel
theorem d_Rd_readPlaces_4 : decode b_Rd_readPlaces 4 = .ok (.istore_n 2, 1) := by decide +kernel
theorem d_Rd_readPlaces_5 : decode b_Rd_readPlaces 5 = .ok (.iload_n 2, 1) := by decide +kernel
theorem d_Rd_readPlaces_6 : decode b_Rd_readPlaces 6 = .ok (.bipush 8, 2) := by decide +kernel
theorem d_Rd_readPlaces_8 : decode b_Rd_readPlaces 8 = .ok (.invokestatic 88, 3) := by decide +kernel
theorem d_Rd_readPlaces_11 : decode b_Rd_readPlaces 11 = .ok (.ifCond .eq 8, 3) := by decide +kernel
theorem d_Rd_readPlaces_14 : decode b_Rd_readPlaces 14 = .ok (.aload_n 0, 1) := by decide +kernel
theorem d_Rd_readPlaces_15 : decode b_Rd_readPlaces 15 = .ok (.iconst 2, 1) := by decide +kernel
theorem d_Rd_readPlaces_16 : decode b_Rd_readPlaces 16 = .ok (.invokevirtual 75, 3) := by decide +kernel
theorem d_Rd_readPlaces_19 : decode b_Rd_readPlaces 19 = .ok (.aload_n 0, 1) := by decide +kernel
theorem d_Rd_readPlaces_20 : decode b_Rd_readPlaces 20 = .ok (.getfield 24, 3) := by decide +kernel
theorem d_Rd_readPlaces_23 : decode b_Rd_readPlaces 23 = .ok (.getfield 159, 3) := by decide +kernel
theorem d_Rd_readPlaces_26 : decode b_Rd_readPlaces 26 = .ok (.iload_n 1, 1) := by decide +kernel
theorem d_Rd_readPlaces_27 : decode b_Rd_readPlaces 27 = .ok (.iconst 1, 1) := by decide +kernel
theorem d_Rd_readPlaces_28 : decode b_Rd_readPlaces 28 = .ok (.iload_n 2, 1) := by decide +kernel
theorem d_Rd_readPlaces_29 : decode b_Rd_readPlaces 29 = .ok (.invokevirtual 98, 3) := by decide +kernel
theorem d_Rd_readPlaces_32 : decode b_Rd_readPlaces 32 = .ok (.aload_n 0, 1) := by decide +kernel
theorem d_Rd_readPlaces_33 : decode b_Rd_readPlaces 33 = .ok (.getfield 24, 3) := by decide +kernel
theorem d_Rd_readPlaces_36 : decode b_Rd_readPlaces 36 = .ok (.getfield 159, 3) := by decide +kernel
theorem d_Rd_readPlaces_39 : decode b_Rd_readPlaces 39 = .ok (.iload_n 1, 1) := by decide +kernel
theorem d_Rd_readPlaces_40 : decode b_Rd_readPlaces 40 = .ok (.iconst 2, 1) := by decide +kernel
theorem d_Rd_readPlaces_41 : decode b_Rd_readPlaces 41 = .ok (.aload_n 0, 1) := by decide +kernel
theorem d_Rd_readPlaces_42 : decode b_Rd_readPlaces 42 = .ok (.getfield 24, 3) := by decide +kernel
theorem d_Rd_readPlaces_45 : decode b_Rd_readPlaces 45 = .ok (.getfield 204, 3) := by decide +kernel
theorem d_Rd_readPlaces_48 : decode b_Rd_readPlaces 48 = .ok (.invokevirtual 70, 3) := by decide +kernel
theorem d_Rd_readPlaces_51 : decode b_Rd_readPlaces 51 = .ok (.invokevirtual 98, 3) := by decide +kernel
theorem d_Rd_readPlaces_54 : decode b_Rd_readPlaces 54 = .ok (.iconst 0, 1) := by decide +kernel
theorem d_Rd_readPlaces_55 : decode b_Rd_readPlaces 55 = .ok (.istore_n 3, 1) := by decide +kernel
theorem d_Rd_readPlaces_56 : decode b_Rd_readPlaces 56 = .ok (.iload_n 3, 1) := by decide +kernel
theorem d_Rd_readPlaces_57 : decode b_Rd_readPlaces 57 = .ok (.bipush 8, 2) := by decide +kernel
theorem d_Rd_readPlaces_59 : decode b_Rd_readPlaces 59 = .ok (.if_icmp .gt 46, 3) := by decide +kernel
theorem d_Rd_readPlaces_62 : decode b_Rd_readPlaces 62 = .ok (.iload_n 3, 1) := by decide +kernel
theorem d_Rd_readPlaces_63 : decode b_Rd_readPlaces 63 = .ok (.iload_n 2, 1) := by decide +kernel
theorem d_Rd_readPlaces_64 : decode b_Rd_readPlaces 64 = .ok (.if_icmp .gt 41, 3) := by decide +kernel
theorem d_Rd_readPlaces_67 : decode b_Rd_readPlaces 67 = .ok (.aload_n 0, 1) := by decide +kernel
theorem d_Rd_readPlaces_68 : decode b_Rd_readPlaces 68 = .ok (.getfield 46, 3) := by decide +kernel
theorem d_Rd_readPlaces_71 : decode b_Rd_readPlaces 71 = .ok (.ifCond .ne 34, 3) := by decide +kernel
theorem d_Rd_readPlaces_74 : decode b_Rd_readPlaces 74 = .ok (.aload_n 0, 1) := by decide +kernel
theorem d_Rd_readPlaces_75 : decode b_Rd_readPlaces 75 = .ok (.getfield 24, 3) := by decide +kernel
theorem d_Rd_readPlaces_78 : decode b_Rd_readPlaces 78 = .ok (.getfield 204, 3) := by decide +kernel
theorem d_Rd_readPlaces_81 : decode b_Rd_readPlaces 81 = .ok (.aload_n 0, 1) := by decide +kernel
theorem d_Rd_readPlaces_82 : decode b_Rd_readPlaces 82 = .ok (.getfield 24, 3) := by decide +kernel
theorem d_Rd_readPlaces_85 : decode b_Rd_readPlaces 85 = .ok (.getfield 204, 3) := by decide +kernel
theorem d_Rd_readPlaces_88 : decode b_Rd_readPlaces 88 = .ok (.invokevirtual 95, 3) := by decide +kernel
theorem d_Rd_readPlaces_91 : decode b_Rd_readPlaces 91 = .ok (.iconst 0, 1) := by decide +kernel
theorem d_Rd_readPlaces_92 : decode b_Rd_readPlaces 92 = .ok (.aload_n 0, 1) := by decide +kernel
theorem d_Rd_readPlaces_93 : decode b_Rd_readPlaces 93 = .ok (.invokevirtual 85, 3) := by decide +kernel
theorem d_Rd_readPlaces_96 : decode b_Rd_readPlaces 96 = .ok (.invokevirtual 98, 3) := by decide +kernel
theorem d_Rd_readPlaces_99 : decode b_Rd_readPlaces 99 = .ok (.iinc 3 1, 3) := by decide +kernel
theorem d_Rd_readPlaces_102 : decode b_Rd_readPlaces 102 = .ok (.goto (-46), 3) := by decide +kernel
theorem d_Rd_readPlaces_105 : decode b_Rd_readPlaces 105 = .ok (.return_, 1) := by decide +kernel
theorem d_Rd_nextSigned_0 : decode b_Rd_nextSigned 0 = .ok (.iconst 0, 1) := by decide +kernel
theorem d_Rd_nextSigned_1 : decode b_Rd_nextSigned 1 = .ok (.istore_n 1, 1) := by decide +kernel
theorem d_Rd_nextSigned_2 : decode b_Rd_nextSigned 2 = .ok (.iconst 0, 1) := by decide +kernel
theorem d_Rd_nextSigned_3 : decode b_Rd_nextSigned 3 = .ok (.istore_n 2, 1) := by decide +kernel
theorem d_Rd_nextSigned_4 : decode b_Rd_nextSigned 4 = .ok (.iload_n 2, 1) := by decide +kernel
theorem d_Rd_nextSigned_5 : decode b_Rd_nextSigned 5 = .ok (.iconst 5, 1) := by decide +kernel
theorem d_Rd_nextSigned_6 : decode b_Rd_nextSigned 6 = .ok (.if_icmp .ge 81, 3) := by decide +kernel
theorem d_Rd_nextSigned_9 : decode b_Rd_nextSigned 9 = .ok (.aload_n 0, 1) := by decide +kernel
theorem d_Rd_nextSigned_10 : decode b_Rd_nextSigned 10 = .ok (.invokevirtual 55, 3) := by decide +kernel
theorem d_Rd_nextSigned_13 : decode b_Rd_nextSigned 13 = .ok (.istore_n 3, 1) := by decide +kernel
theorem d_Rd_nextSigned_14 : decode b_Rd_nextSigned 14 = .ok (.iload_n 1, 1) := by decide +kernel
theorem d_Rd_nextSigned_15 : decode b_Rd_nextSigned 15 = .ok (.iload_n 3, 1) := by decide +kernel
theorem d_Rd_nextSigned_16 : decode b_Rd_nextSigned 16 = .ok (.bipush 127, 2) := by decide +kernel
theorem d_Rd_nextSigned_18 : decode b_Rd_nextSigned 18 = .ok (.iand, 1) := by decide +kernel
theorem d_Rd_nextSigned_19 : decode b_Rd_nextSigned 19 = .ok (.bipush 7, 2) := by decide +kernel
theorem d_Rd_nextSigned_21 : decode b_Rd_nextSigned 21 = .ok (.iload_n 2, 1) := by decide +kernel
theorem d_Rd_nextSigned_22 : decode b_Rd_nextSigned 22 = .ok (.imul, 1) := by decide +kernel
theorem d_Rd_nextSigned_23 : decode b_Rd_nextSigned 23 = .ok (.ishl, 1) := by decide +kernel
theorem d_Rd_nextSigned_24 : decode b_Rd_nextSigned 24 = .ok (.ior, 1) := by decide +kernel
theorem d_Rd_nextSigned_25 : decode b_Rd_nextSigned 25 = .ok (.istore_n 1, 1) := by decide +kernel
theorem d_Rd_nextSigned_26 : decode b_Rd_nextSigned 26 = .ok (.iload_n 2, 1) := by decide +kernel
theorem d_Rd_nextSigned_27 : decode b_Rd_nextSigned 27 = .ok (.iconst 4, 1) := by decide +kernel
theorem d_Rd_nextSigned_28 : decode b_Rd_nextSigned 28 = .ok (.if_icmp .ne 24, 3) := by decide +kernel
theorem d_Rd_nextSigned_31 : decode b_Rd_nextSigned 31 = .ok (.iload_n 3, 1) := by decide +kernel
theorem d_Rd_nextSigned_32 : decode b_Rd_nextSigned 32 = .ok (.iconst 3, 1) := by decide +kernel
theorem d_Rd_nextSigned_33 : decode b_Rd_nextSigned 33 = .ok (.ishr, 1) := by decide +kernel
theorem d_Rd_nextSigned_34 : decode b_Rd_nextSigned 34 = .ok (.ifCond .eq 16, 3) := by decide +kernel
theorem d_Rd_nextSigned_37 : decode b_Rd_nextSigned 37 = .ok (.iload_n 3, 1) := by decide +kernel
theorem d_Rd_nextSigned_38 : decode b_Rd_nextSigned 38 = .ok (.iconst 3, 1) := by decide +kernel
theorem d_Rd_nextSigned_39 : decode b_Rd_nextSigned 39 = .ok (.ishr, 1) := by decide +kernel
theorem d_Rd_nextSigned_40 : decode b_Rd_nextSigned 40 = .ok (.bipush 15, 2) := by decide +kernel
theorem d_Rd_nextSigned_42 : decode b_Rd_nextSigned 42 = .ok (.if_icmp .eq 8, 3) := by decide +kernel
theorem d_Rd_nextSigned_45 : decode b_Rd_nextSigned 45 = .ok (.aload_n 0, 1) := by decide +kernel
theorem d_Rd_nextSigned_46 : decode b_Rd_nextSigned 46 = .ok (.iconst 1, 1) := by decide +kernel
theorem d_Rd_nextSigned_47 : decode b_Rd_nextSigned 47 = .ok (.invokevirtual 75, 3) := by decide +kernel
theorem d_Rd_nextSigned_50 : decode b_Rd_nextSigned 50 = .ok (.iload_n 1, 1) := by decide +kernel
theorem d_Rd_nextSigned_51 : decode b_Rd_nextSigned 51 = .ok (.ireturn, 1) := by decide +kernel
theorem d_Rd_nextSigned_52 : decode b_Rd_nextSigned 52 = .ok (.iload_n 3, 1) := by decide +kernel
theorem d_Rd_nextSigned_53 : decode b_Rd_nextSigned 53 = .ok (.sipush 128, 3) := by decide +kernel
theorem d_Rd_nextSigned_56 : decode b_Rd_nextSigned 56 = .ok (.if_icmp .ge 25, 3) := by decide +kernel
theorem d_Rd_nextSigned_59 : decode b_Rd_nextSigned 59 = .ok (.iload_n 3, 1) := by decide +kernel
theorem d_Rd_nextSigned_60 : decode b_Rd_nextSigned 60 = .ok (.bipush 64, 2) := by decide +kernel
theorem d_Rd_nextSigned_62 : decode b_Rd_nextSigned 62 = .ok (.iand, 1) := by decide +kernel
theorem d_Rd_nextSigned_63 : decode b_Rd_nextSigned 63 = .ok (.ifCond .ne 7, 3) := by decide +kernel
theorem d_Rd_nextSigned_66 : decode b_Rd_nextSigned 66 = .ok (.iload_n 1, 1) := by decide +kernel
theorem d_Rd_nextSigned_67 : decode b_Rd_nextSigned 67 = .ok (.goto 13, 3) := by decide +kernel
theorem d_Rd_nextSigned_70 : decode b_Rd_nextSigned 70 = .ok (.iload_n 1, 1) := by decide +kernel
theorem d_Rd_nextSigned_71 : decode b_Rd_nextSigned 71 = .ok (.iconst (-1), 1) := by decide +kernel
theorem d_Rd_nextSigned_72 : decode b_Rd_nextSigned 72 = .ok (.bipush 7, 2) := by decide +kernel
theorem d_Rd_nextSigned_74 : decode b_Rd_nextSigned 74 = .ok (.iload_n 2, 1) := by decide +kernel
theorem d_Rd_nextSigned_75 : decode b_Rd_nextSigned 75 = .ok (.iconst 1, 1) := by decide +kernel
theorem d_Rd_nextSigned_76 : decode b_Rd_nextSigned 76 = .ok (.iadd, 1) := by decide +kernel
theorem d_Rd_nextSigned_77 : decode b_Rd_nextSigned 77 = .ok (.imul, 1) := by decide +kernel
theorem d_Rd_nextSigned_78 : decode b_Rd_nextSigned 78 = .ok (.ishl, 1) := by decide +kernel
theorem d_Rd_nextSigned_79 : decode b_Rd_nextSigned 79 = .ok (.ior, 1) := by decide +kernel
theorem d_Rd_nextSigned_80 : decode b_Rd_nextSigned 80 = .ok (.ireturn, 1) := by decide +kernel
theorem d_Rd_nextSigned_81 : decode b_Rd_nextSigned 81 = .ok (.iinc 2 1, 3) := by decide +kernel
theorem d_Rd_nextSigned_84 : decode b_Rd_nextSigned 84 = .ok (.goto (-80), 3) := by decide +kernel
theorem d_Rd_nextSigned_87 : decode b_Rd_nextSigned 87 = .ok (.iload_n 1, 1) := by decide +kernel
theorem d_Rd_nextSigned_88 : decode b_Rd_nextSigned 88 = .ok (.ireturn, 1) := by decide +kernel
theorem d_Rd_readOperands_0 : decode b_Rd_readOperands 0 = .ok (.iload_n 2, 1) := by decide +kernel
theorem d_Rd_readOperands_1 : decode b_Rd_readOperands 1 = .ok (.bipush 65, 2) := by decide +kernel
theorem d_Rd_readOperands_3 : decode b_Rd_readOperands 3 = .ok (.if_icmp .ne 22, 3) := by decide +kernel
theorem d_Rd_readOperands_6 : decode b_Rd_readOperands 6 = .ok (.aload_n 0, 1) := by decide +kernel
theorem d_Rd_readOperands_7 : decode b_Rd_readOperands 7 = .ok (.getfield 24, 3) := by decide +kernel
theorem d_Rd_readOperands_10 : decode b_Rd_readOperands 10 = .ok (.getfield 159, 3) := by decide +kernel
theorem d_Rd_readOperands_13 : decode b_Rd_readOperands 13 = .ok (.iload_n 1, 1) := by decide +kernel
theorem d_Rd_readOperands_14 : decode b_Rd_readOperands 14 = .ok (.iconst 1, 1) := by decide +kernel
theorem d_Rd_readOperands_15 : decode b_Rd_readOperands 15 = .ok (.aload_n 0, 1) := by decide +kernel
theorem d_Rd_readOperands_16 : decode b_Rd_readOperands 16 = .ok (.invokevirtual 147, 3) := by decide +kernel
theorem d_Rd_readOperands_19 : decode b_Rd_readOperands 19 = .ok (.invokevirtual 98, 3) := by decide +kernel
theorem d_Rd_readOperands_22 : decode b_Rd_readOperands 22 = .ok (.goto 111, 3) := by decide +kernel
theorem d_Rd_readOperands_25 : decode b_Rd_readOperands 25 = .ok (.iload_n 2, 1) := by decide +kernel
theorem d_Rd_readOperands_26 : decode b_Rd_readOperands 26 = .ok (.bipush 63, 2) := by decide +kernel
theorem d_Rd_readOperands_28 : decode b_Rd_readOperands 28 = .ok (.if_icmp .eq 9, 3) := by decide +kernel
theorem d_Rd_readOperands_31 : decode b_Rd_readOperands 31 = .ok (.iload_n 2, 1) := by decide +kernel
theorem d_Rd_readOperands_32 : decode b_Rd_readOperands 32 = .ok (.bipush 64, 2) := by decide +kernel
theorem d_Rd_readOperands_34 : decode b_Rd_readOperands 34 = .ok (.if_icmp .ne 11, 3) := by decide +kernel
theorem d_Rd_readOperands_37 : decode b_Rd_readOperands 37 = .ok (.aload_n 0, 1) := by decide +kernel
theorem d_Rd_readOperands_38 : decode b_Rd_readOperands 38 = .ok (.iconst 0, 1) := by decide +kernel
theorem d_Rd_readOperands_39 : decode b_Rd_readOperands 39 = .ok (.invokevirtual 52, 3) := by decide +kernel
theorem d_Rd_readOperands_42 : decode b_Rd_readOperands 42 = .ok (.goto 91, 3) := by decide +kernel
theorem d_Rd_readOperands_45 : decode b_Rd_readOperands 45 = .ok (.iload_n 2, 1) := by decide +kernel
theorem d_Rd_readOperands_46 : decode b_Rd_readOperands 46 = .ok (.invokestatic 195, 3) := by decide +kernel
theorem d_Rd_readOperands_49 : decode b_Rd_readOperands 49 = .ok (.ifCond .eq 38, 3) := by decide +kernel
theorem d_Rd_readOperands_52 : decode b_Rd_readOperands 52 = .ok (.aload_n 0, 1) := by decide +kernel
theorem d_Rd_readOperands_53 : decode b_Rd_readOperands 53 = .ok (.getfield 24, 3) := by decide +kernel
theorem d_Rd_readOperands_56 : decode b_Rd_readOperands 56 = .ok (.getfield 159, 3) := by decide +kernel
theorem d_Rd_readOperands_59 : decode b_Rd_readOperands 59 = .ok (.iload_n 1, 1) := by decide +kernel
theorem d_Rd_readOperands_60 : decode b_Rd_readOperands 60 = .ok (.iconst 2, 1) := by decide +kernel
theorem d_Rd_readOperands_61 : decode b_Rd_readOperands 61 = .ok (.aload_n 0, 1) := by decide +kernel
theorem d_Rd_readOperands_62 : decode b_Rd_readOperands 62 = .ok (.invokevirtual 85, 3) := by decide +kernel
theorem d_Rd_readOperands_65 : decode b_Rd_readOperands 65 = .ok (.invokevirtual 98, 3) := by decide +kernel
theorem d_Rd_readOperands_68 : decode b_Rd_readOperands 68 = .ok (.aload_n 0, 1) := by decide +kernel
theorem d_Rd_readOperands_69 : decode b_Rd_readOperands 69 = .ok (.getfield 24, 3) := by decide +kernel
theorem d_Rd_readOperands_72 : decode b_Rd_readOperands 72 = .ok (.getfield 159, 3) := by decide +kernel
theorem d_Rd_readOperands_75 : decode b_Rd_readOperands 75 = .ok (.iload_n 1, 1) := by decide +kernel
theorem d_Rd_readOperands_76 : decode b_Rd_readOperands 76 = .ok (.iconst 1, 1) := by decide +kernel
theorem d_Rd_readOperands_77 : decode b_Rd_readOperands 77 = .ok (.aload_n 0, 1) := by decide +kernel
theorem d_Rd_readOperands_78 : decode b_Rd_readOperands 78 = .ok (.invokevirtual 85, 3) := by decide +kernel
theorem d_Rd_readOperands_81 : decode b_Rd_readOperands 81 = .ok (.invokevirtual 98, 3) := by decide +kernel
theorem d_Rd_readOperands_84 : decode b_Rd_readOperands 84 = .ok (.goto 49, 3) := by decide +kernel
theorem d_Rd_readOperands_87 : decode b_Rd_readOperands 87 = .ok (.iload_n 2, 1) := by decide +kernel
theorem d_Rd_readOperands_88 : decode b_Rd_readOperands 88 = .ok (.bipush 12, 2) := by decide +kernel
theorem d_Rd_readOperands_90 : decode b_Rd_readOperands 90 = .ok (.if_icmp .eq 27, 3) := by decide +kernel
theorem d_Rd_readOperands_93 : decode b_Rd_readOperands 93 = .ok (.iload_n 2, 1) := by decide +kernel
theorem d_Rd_readOperands_94 : decode b_Rd_readOperands 94 = .ok (.bipush 13, 2) := by decide +kernel
theorem d_Rd_readOperands_96 : decode b_Rd_readOperands 96 = .ok (.if_icmp .eq 21, 3) := by decide +kernel
theorem d_Rd_readOperands_99 : decode b_Rd_readOperands 99 = .ok (.iload_n 2, 1) := by decide +kernel
theorem d_Rd_readOperands_100 : decode b_Rd_readOperands 100 = .ok (.bipush 16, 2) := by decide +kernel
theorem d_Rd_readOperands_102 : decode b_Rd_readOperands 102 = .ok (.if_icmp .eq 15, 3) := by decide +kernel
theorem d_Rd_readOperands_105 : decode b_Rd_readOperands 105 = .ok (.iload_n 2, 1) := by decide +kernel
theorem d_Rd_readOperands_106 : decode b_Rd_readOperands 106 = .ok (.bipush 32, 2) := by decide +kernel
theorem d_Rd_readOperands_108 : decode b_Rd_readOperands 108 = .ok (.if_icmp .lt 25, 3) := by decide +kernel
theorem d_Rd_readOperands_111 : decode b_Rd_readOperands 111 = .ok (.iload_n 2, 1) := by decide +kernel
theorem d_Rd_readOperands_112 : decode b_Rd_readOperands 112 = .ok (.bipush 36, 2) := by decide +kernel
theorem d_Rd_readOperands_114 : decode b_Rd_readOperands 114 = .ok (.if_icmp .gt 19, 3) := by decide +kernel
theorem d_Rd_readOperands_117 : decode b_Rd_readOperands 117 = .ok (.aload_n 0, 1) := by decide +kernel
theorem d_Rd_readOperands_118 : decode b_Rd_readOperands 118 = .ok (.getfield 24, 3) := by decide +kernel
theorem d_Rd_readOperands_121 : decode b_Rd_readOperands 121 = .ok (.getfield 159, 3) := by decide +kernel
theorem d_Rd_readOperands_124 : decode b_Rd_readOperands 124 = .ok (.iload_n 1, 1) := by decide +kernel
theorem d_Rd_readOperands_125 : decode b_Rd_readOperands 125 = .ok (.iconst 1, 1) := by decide +kernel
theorem d_Rd_readOperands_126 : decode b_Rd_readOperands 126 = .ok (.aload_n 0, 1) := by decide +kernel
theorem d_Rd_readOperands_127 : decode b_Rd_readOperands 127 = .ok (.invokevirtual 85, 3) := by decide +kernel
theorem d_Rd_readOperands_130 : decode b_Rd_readOperands 130 = .ok (.invokevirtual 98, 3) := by decide +kernel
theorem d_Rd_readOperands_133 : decode b_Rd_readOperands 133 = .ok (.return_, 1) := by decide +kernel
theorem d_Rd_readInstruction_0 : decode b_Rd_readInstruction 0 = .ok (.aload_n 0, 1) := by decide +kernel
theorem d_Rd_readInstruction_1 : decode b_Rd_readInstruction 1 = .ok (.invokevirtual 55, 3) := by decide +kernel
theorem d_Rd_readInstruction_4 : decode b_Rd_readInstruction 4 = .ok (.istore_n 1, 1) := by decide +kernel
theorem d_Rd_readInstruction_5 : decode b_Rd_readInstruction 5 = .ok (.iload_n 1, 1) := by decide +kernel
theorem d_Rd_readInstruction_6 : decode b_Rd_readInstruction 6 = .ok (.invokestatic 173, 3) := by decide +kernel
theorem d_Rd_readInstruction_9 : decode b_Rd_readInstruction 9 = .ok (.ifCond .ne 8, 3) := by decide +kernel
theorem d_Rd_readInstruction_12 : decode b_Rd_readInstruction 12 = .ok (.aload_n 0, 1) := by decide +kernel
theorem d_Rd_readInstruction_13 : decode b_Rd_readInstruction 13 = .ok (.iconst 2, 1) := by decide +kernel
theorem d_Rd_readInstruction_14 : decode b_Rd_readInstruction 14 = .ok (.invokevirtual 75, 3) := by decide +kernel
theorem d_Rd_readInstruction_17 : decode b_Rd_readInstruction 17 = .ok (.aload_n 0, 1) := by decide +kernel
theorem d_Rd_readInstruction_18 : decode b_Rd_readInstruction 18 = .ok (.getfield 46, 3) := by decide +kernel
theorem d_Rd_readInstruction_21 : decode b_Rd_readInstruction 21 = .ok (.ifCond .eq 4, 3) := by decide +kernel
theorem d_Rd_readInstruction_24 : decode b_Rd_readInstruction 24 = .ok (.return_, 1) := by decide +kernel
theorem d_Rd_readInstruction_25 : decode b_Rd_readInstruction 25 = .ok (.aload_n 0, 1) := by decide +kernel
theorem d_Rd_readInstruction_26 : decode b_Rd_readInstruction 26 = .ok (.getfield 24, 3) := by decide +kernel
theorem d_Rd_readInstruction_29 : decode b_Rd_readInstruction 29 = .ok (.getfield 159, 3) := by decide +kernel
theorem d_Rd_readInstruction_32 : decode b_Rd_readInstruction 32 = .ok (.invokevirtual 95, 3) := by decide +kernel
theorem d_Rd_readInstruction_35 : decode b_Rd_readInstruction 35 = .ok (.istore_n 2, 1) := by decide +kernel
theorem d_Rd_readInstruction_36 : decode b_Rd_readInstruction 36 = .ok (.aload_n 0, 1) := by decide +kernel
theorem d_Rd_readInstruction_37 : decode b_Rd_readInstruction 37 = .ok (.getfield 24, 3) := by decide +kernel
theorem d_Rd_readInstruction_40 : decode b_Rd_readInstruction 40 = .ok (.getfield 159, 3) := by decide +kernel
theorem d_Rd_readInstruction_43 : decode b_Rd_readInstruction 43 = .ok (.iload_n 2, 1) := by decide +kernel
theorem d_Rd_readInstruction_44 : decode b_Rd_readInstruction 44 = .ok (.iconst 0, 1) := by decide +kernel
theorem d_Rd_readInstruction_45 : decode b_Rd_readInstruction 45 = .ok (.iload_n 1, 1) := by decide +kernel
theorem d_Rd_readInstruction_46 : decode b_Rd_readInstruction 46 = .ok (.invokevirtual 98, 3) := by decide +kernel
theorem d_Rd_readInstruction_49 : decode b_Rd_readInstruction 49 = .ok (.iload_n 1, 1) := by decide +kernel
theorem d_Rd_readInstruction_50 : decode b_Rd_readInstruction 50 = .ok (.invokestatic 177, 3) := by decide +kernel
theorem d_Rd_readInstruction_53 : decode b_Rd_readInstruction 53 = .ok (.ifCond .eq 11, 3) := by decide +kernel
theorem d_Rd_readInstruction_56 : decode b_Rd_readInstruction 56 = .ok (.aload_n 0, 1) := by decide +kernel
theorem d_Rd_readInstruction_57 : decode b_Rd_readInstruction 57 = .ok (.iload_n 2, 1) := by decide +kernel
theorem d_Rd_readInstruction_58 : decode b_Rd_readInstruction 58 = .ok (.invokevirtual 180, 3) := by decide +kernel
theorem d_Rd_readInstruction_61 : decode b_Rd_readInstruction 61 = .ok (.goto 50, 3) := by decide +kernel
theorem d_Rd_readInstruction_64 : decode b_Rd_readInstruction 64 = .ok (.iload_n 1, 1) := by decide +kernel
theorem d_Rd_readInstruction_65 : decode b_Rd_readInstruction 65 = .ok (.iconst 5, 1) := by decide +kernel
theorem d_Rd_readInstruction_66 : decode b_Rd_readInstruction 66 = .ok (.if_icmp .ne 11, 3) := by decide +kernel
theorem d_Rd_readInstruction_69 : decode b_Rd_readInstruction 69 = .ok (.aload_n 0, 1) := by decide +kernel
theorem d_Rd_readInstruction_70 : decode b_Rd_readInstruction 70 = .ok (.iload_n 2, 1) := by decide +kernel
theorem d_Rd_readInstruction_71 : decode b_Rd_readInstruction 71 = .ok (.invokevirtual 183, 3) := by decide +kernel
theorem d_Rd_readInstruction_74 : decode b_Rd_readInstruction 74 = .ok (.goto 37, 3) := by decide +kernel
theorem d_Rd_readInstruction_77 : decode b_Rd_readInstruction 77 = .ok (.iload_n 1, 1) := by decide +kernel
theorem d_Rd_readInstruction_78 : decode b_Rd_readInstruction 78 = .ok (.bipush 11, 2) := by decide +kernel
theorem d_Rd_readInstruction_80 : decode b_Rd_readInstruction 80 = .ok (.if_icmp .ne 11, 3) := by decide +kernel
theorem d_Rd_readInstruction_83 : decode b_Rd_readInstruction 83 = .ok (.aload_n 0, 1) := by decide +kernel
theorem d_Rd_readInstruction_84 : decode b_Rd_readInstruction 84 = .ok (.iload_n 2, 1) := by decide +kernel
theorem d_Rd_readInstruction_85 : decode b_Rd_readInstruction 85 = .ok (.invokevirtual 186, 3) := by decide +kernel
theorem d_Rd_readInstruction_88 : decode b_Rd_readInstruction 88 = .ok (.goto 23, 3) := by decide +kernel
theorem d_Rd_readInstruction_91 : decode b_Rd_readInstruction 91 = .ok (.iload_n 1, 1) := by decide +kernel
theorem d_Rd_readInstruction_92 : decode b_Rd_readInstruction 92 = .ok (.bipush 14, 2) := by decide +kernel
theorem d_Rd_readInstruction_94 : decode b_Rd_readInstruction 94 = .ok (.if_icmp .ne 11, 3) := by decide +kernel
theorem d_Rd_readInstruction_97 : decode b_Rd_readInstruction 97 = .ok (.aload_n 0, 1) := by decide +kernel
theorem d_Rd_readInstruction_98 : decode b_Rd_readInstruction 98 = .ok (.iload_n 2, 1) := by decide +kernel
theorem d_Rd_readInstruction_99 : decode b_Rd_readInstruction 99 = .ok (.invokevirtual 189, 3) := by decide +kernel
theorem d_Rd_readInstruction_102 : decode b_Rd_readInstruction 102 = .ok (.goto 9, 3) := by decide +kernel
theorem d_Rd_readInstruction_105 : decode b_Rd_readInstruction 105 = .ok (.aload_n 0, 1) := by decide +kernel
theorem d_Rd_readInstruction_106 : decode b_Rd_readInstruction 106 = .ok (.iload_n 2, 1) := by decide +kernel
theorem d_Rd_readInstruction_107 : decode b_Rd_readInstruction 107 = .ok (.iload_n 1, 1) := by decide +kernel
theorem d_Rd_readInstruction_108 : decode b_Rd_readInstruction 108 = .ok (.invokevirtual 192, 3) := by decide +kernel
theorem d_Rd_readInstruction_111 : decode b_Rd_readInstruction 111 = .ok (.return_, 1) := by decide +kernel
theorem d_Rd_readBody_0 : decode b_Rd_readBody 0 = .ok (.aload_n 0, 1) := by decide +kernel
theorem d_Rd_readBody_1 : decode b_Rd_readBody 1 = .ok (.getfield 40, 3) := by decide +kernel
theorem d_Rd_readBody_4 : decode b_Rd_readBody 4 = .ok (.istore_n 2, 1) := by decide +kernel
theorem d_Rd_readBody_5 : decode b_Rd_readBody 5 = .ok (.aload_n 0, 1) := by decide +kernel
theorem d_Rd_readBody_6 : decode b_Rd_readBody 6 = .ok (.aload_n 0, 1) := by decide +kernel
theorem d_Rd_readBody_7 : decode b_Rd_readBody 7 = .ok (.invokevirtual 82, 3) := by decide +kernel
theorem d_Rd_readBody_10 : decode b_Rd_readBody 10 = .ok (.putfield 40, 3) := by decide +kernel
theorem d_Rd_readBody_13 : decode b_Rd_readBody 13 = .ok (.aload_n 0, 1) := by decide +kernel
theorem d_Rd_readBody_14 : decode b_Rd_readBody 14 = .ok (.iload_n 1, 1) := by decide +kernel
theorem d_Rd_readBody_15 : decode b_Rd_readBody 15 = .ok (.invokevirtual 156, 3) := by decide +kernel
theorem d_Rd_readBody_18 : decode b_Rd_readBody 18 = .ok (.aload_n 0, 1) := by decide +kernel
theorem d_Rd_readBody_19 : decode b_Rd_readBody 19 = .ok (.getfield 24, 3) := by decide +kernel
theorem d_Rd_readBody_22 : decode b_Rd_readBody 22 = .ok (.getfield 66, 3) := by decide +kernel
theorem d_Rd_readBody_25 : decode b_Rd_readBody 25 = .ok (.iload_n 1, 1) := by decide +kernel
theorem d_Rd_readBody_26 : decode b_Rd_readBody 26 = .ok (.iconst 2, 1) := by decide +kernel
theorem d_Rd_readBody_27 : decode b_Rd_readBody 27 = .ok (.aload_n 0, 1) := by decide +kernel
theorem d_Rd_readBody_28 : decode b_Rd_readBody 28 = .ok (.getfield 24, 3) := by decide +kernel
theorem d_Rd_readBody_31 : decode b_Rd_readBody 31 = .ok (.getfield 159, 3) := by decide +kernel
theorem d_Rd_readBody_34 : decode b_Rd_readBody 34 = .ok (.invokevirtual 70, 3) := by decide +kernel
theorem d_Rd_readBody_37 : decode b_Rd_readBody 37 = .ok (.invokevirtual 98, 3) := by decide +kernel
theorem d_Rd_readBody_40 : decode b_Rd_readBody 40 = .ok (.aload_n 0, 1) := by decide +kernel
theorem d_Rd_readBody_41 : decode b_Rd_readBody 41 = .ok (.getfield 20, 3) := by decide +kernel
theorem d_Rd_readBody_44 : decode b_Rd_readBody 44 = .ok (.iconst 0, 1) := by decide +kernel
theorem d_Rd_readBody_45 : decode b_Rd_readBody 45 = .ok (.iconst (-1), 1) := by decide +kernel
theorem d_Rd_readBody_46 : decode b_Rd_readBody 46 = .ok (.invokevirtual 162, 3) := by decide +kernel
theorem d_Rd_readBody_49 : decode b_Rd_readBody 49 = .ok (.aload_n 0, 1) := by decide +kernel
theorem d_Rd_readBody_50 : decode b_Rd_readBody 50 = .ok (.iconst 1, 1) := by decide +kernel
theorem d_Rd_readBody_51 : decode b_Rd_readBody 51 = .ok (.putfield 164, 3) := by decide +kernel
theorem d_Rd_readBody_54 : decode b_Rd_readBody 54 = .ok (.iconst 0, 1) := by decide +kernel
theorem d_Rd_readBody_55 : decode b_Rd_readBody 55 = .ok (.istore_n 3, 1) := by decide +kernel
theorem d_Rd_readBody_56 : decode b_Rd_readBody 56 = .ok (.iload_n 3, 1) := by decide +kernel
theorem d_Rd_readBody_57 : decode b_Rd_readBody 57 = .ok (.sipush 240, 3) := by decide +kernel
theorem d_Rd_readBody_60 : decode b_Rd_readBody 60 = .ok (.if_icmp .ge 27, 3) := by decide +kernel
theorem d_Rd_readBody_63 : decode b_Rd_readBody 63 = .ok (.aload_n 0, 1) := by decide +kernel
theorem d_Rd_readBody_64 : decode b_Rd_readBody 64 = .ok (.getfield 46, 3) := by decide +kernel
theorem d_Rd_readBody_67 : decode b_Rd_readBody 67 = .ok (.ifCond .ne 20, 3) := by decide +kernel
theorem d_Rd_readBody_70 : decode b_Rd_readBody 70 = .ok (.aload_n 0, 1) := by decide +kernel
theorem d_Rd_readBody_71 : decode b_Rd_readBody 71 = .ok (.getfield 164, 3) := by decide +kernel
theorem d_Rd_readBody_74 : decode b_Rd_readBody 74 = .ok (.ifCond .le 13, 3) := by decide +kernel
theorem d_Rd_readBody_77 : decode b_Rd_readBody 77 = .ok (.aload_n 0, 1) := by decide +kernel
theorem d_Rd_readBody_78 : decode b_Rd_readBody 78 = .ok (.invokevirtual 167, 3) := by decide +kernel
theorem d_Rd_readBody_81 : decode b_Rd_readBody 81 = .ok (.iinc 3 1, 3) := by decide +kernel
theorem d_Rd_readBody_84 : decode b_Rd_readBody 84 = .ok (.goto (-28), 3) := by decide +kernel
theorem d_Rd_readBody_87 : decode b_Rd_readBody 87 = .ok (.aload_n 0, 1) := by decide +kernel
theorem d_Rd_readBody_88 : decode b_Rd_readBody 88 = .ok (.getfield 24, 3) := by decide +kernel
theorem d_Rd_readBody_91 : decode b_Rd_readBody 91 = .ok (.getfield 66, 3) := by decide +kernel
theorem d_Rd_readBody_94 : decode b_Rd_readBody 94 = .ok (.iload_n 1, 1) := by decide +kernel
theorem d_Rd_readBody_95 : decode b_Rd_readBody 95 = .ok (.iconst 3, 1) := by decide +kernel
theorem d_Rd_readBody_96 : decode b_Rd_readBody 96 = .ok (.aload_n 0, 1) := by decide +kernel
theorem d_Rd_readBody_97 : decode b_Rd_readBody 97 = .ok (.getfield 24, 3) := by decide +kernel
theorem d_Rd_readBody_100 : decode b_Rd_readBody 100 = .ok (.getfield 159, 3) := by decide +kernel
theorem d_Rd_readBody_103 : decode b_Rd_readBody 103 = .ok (.invokevirtual 70, 3) := by decide +kernel
theorem d_Rd_readBody_106 : decode b_Rd_readBody 106 = .ok (.iconst 1, 1) := by decide +kernel
theorem d_Rd_readBody_107 : decode b_Rd_readBody 107 = .ok (.isub, 1) := by decide +kernel
theorem d_Rd_readBody_108 : decode b_Rd_readBody 108 = .ok (.invokevirtual 98, 3) := by decide +kernel
theorem d_Rd_readBody_111 : decode b_Rd_readBody 111 = .ok (.aload_n 0, 1) := by decide +kernel
theorem d_Rd_readBody_112 : decode b_Rd_readBody 112 = .ok (.getfield 37, 3) := by decide +kernel
theorem d_Rd_readBody_115 : decode b_Rd_readBody 115 = .ok (.aload_n 0, 1) := by decide +kernel
theorem d_Rd_readBody_116 : decode b_Rd_readBody 116 = .ok (.getfield 40, 3) := by decide +kernel
theorem d_Rd_readBody_119 : decode b_Rd_readBody 119 = .ok (.if_icmp .eq 8, 3) := by decide +kernel
theorem d_Rd_readBody_122 : decode b_Rd_readBody 122 = .ok (.aload_n 0, 1) := by decide +kernel
theorem d_Rd_readBody_123 : decode b_Rd_readBody 123 = .ok (.iconst 1, 1) := by decide +kernel
theorem d_Rd_readBody_124 : decode b_Rd_readBody 124 = .ok (.invokevirtual 75, 3) := by decide +kernel
theorem d_Rd_readBody_127 : decode b_Rd_readBody 127 = .ok (.aload_n 0, 1) := by decide +kernel
theorem d_Rd_readBody_128 : decode b_Rd_readBody 128 = .ok (.dup, 1) := by decide +kernel
theorem d_Rd_readBody_129 : decode b_Rd_readBody 129 = .ok (.getfield 43, 3) := by decide +kernel
theorem d_Rd_readBody_132 : decode b_Rd_readBody 132 = .ok (.iconst 1, 1) := by decide +kernel
theorem d_Rd_readBody_133 : decode b_Rd_readBody 133 = .ok (.iadd, 1) := by decide +kernel
theorem d_Rd_readBody_134 : decode b_Rd_readBody 134 = .ok (.putfield 43, 3) := by decide +kernel
theorem d_Rd_readBody_137 : decode b_Rd_readBody 137 = .ok (.aload_n 0, 1) := by decide +kernel
theorem d_Rd_readBody_138 : decode b_Rd_readBody 138 = .ok (.iload_n 2, 1) := by decide +kernel
theorem d_Rd_readBody_139 : decode b_Rd_readBody 139 = .ok (.putfield 40, 3) := by decide +kernel
theorem d_Rd_readBody_142 : decode b_Rd_readBody 142 = .ok (.return_, 1) := by decide +kernel
theorem d_Rd_nextUpTo_0 : decode b_Rd_nextUpTo 0 = .ok (.aload_n 0, 1) := by decide +kernel
theorem d_Rd_nextUpTo_1 : decode b_Rd_nextUpTo 1 = .ok (.invokevirtual 55, 3) := by decide +kernel
theorem d_Rd_nextUpTo_4 : decode b_Rd_nextUpTo 4 = .ok (.istore_n 2, 1) := by decide +kernel
theorem d_Rd_nextUpTo_5 : decode b_Rd_nextUpTo 5 = .ok (.iload_n 2, 1) := by decide +kernel
theorem d_Rd_nextUpTo_6 : decode b_Rd_nextUpTo 6 = .ok (.iload_n 1, 1) := by decide +kernel
theorem d_Rd_nextUpTo_7 : decode b_Rd_nextUpTo 7 = .ok (.if_icmp .le 8, 3) := by decide +kernel
theorem d_Rd_nextUpTo_10 : decode b_Rd_nextUpTo 10 = .ok (.aload_n 0, 1) := by decide +kernel
theorem d_Rd_nextUpTo_11 : decode b_Rd_nextUpTo 11 = .ok (.iconst 1, 1) := by decide +kernel
theorem d_Rd_nextUpTo_12 : decode b_Rd_nextUpTo 12 = .ok (.invokevirtual 75, 3) := by decide +kernel
theorem d_Rd_nextUpTo_15 : decode b_Rd_nextUpTo 15 = .ok (.iload_n 2, 1) := by decide +kernel
theorem d_Rd_nextUpTo_16 : decode b_Rd_nextUpTo 16 = .ok (.ireturn, 1) := by decide +kernel
theorem d_Rd_readExport_0 : decode b_Rd_readExport 0 = .ok (.aload_n 0, 1) := by decide +kernel
theorem d_Rd_readExport_1 : decode b_Rd_readExport 1 = .ok (.getfield 24, 3) := by decide +kernel
theorem d_Rd_readExport_4 : decode b_Rd_readExport 4 = .ok (.getfield 150, 3) := by decide +kernel
theorem d_Rd_readExport_7 : decode b_Rd_readExport 7 = .ok (.invokevirtual 95, 3) := by decide +kernel
theorem d_Rd_readExport_10 : decode b_Rd_readExport 10 = .ok (.istore_n 1, 1) := by decide +kernel
theorem d_Rd_readExport_11 : decode b_Rd_readExport 11 = .ok (.aload_n 0, 1) := by decide +kernel
theorem d_Rd_readExport_12 : decode b_Rd_readExport 12 = .ok (.invokevirtual 85, 3) := by decide +kernel
theorem d_Rd_readExport_15 : decode b_Rd_readExport 15 = .ok (.istore_n 2, 1) := by decide +kernel
theorem d_Rd_readExport_16 : decode b_Rd_readExport 16 = .ok (.iload_n 2, 1) := by decide +kernel
theorem d_Rd_readExport_17 : decode b_Rd_readExport 17 = .ok (.bipush 8, 2) := by decide +kernel
theorem d_Rd_readExport_19 : decode b_Rd_readExport 19 = .ok (.invokestatic 88, 3) := by decide +kernel
theorem d_Rd_readExport_22 : decode b_Rd_readExport 22 = .ok (.ifCond .eq 8, 3) := by decide +kernel
theorem d_Rd_readExport_25 : decode b_Rd_readExport 25 = .ok (.aload_n 0, 1) := by decide +kernel
theorem d_Rd_readExport_26 : decode b_Rd_readExport 26 = .ok (.iconst 2, 1) := by decide +kernel
theorem d_Rd_readExport_27 : decode b_Rd_readExport 27 = .ok (.invokevirtual 75, 3) := by decide +kernel
theorem d_Rd_readExport_30 : decode b_Rd_readExport 30 = .ok (.aload_n 0, 1) := by decide +kernel
theorem d_Rd_readExport_31 : decode b_Rd_readExport 31 = .ok (.getfield 24, 3) := by decide +kernel
theorem d_Rd_readExport_34 : decode b_Rd_readExport 34 = .ok (.getfield 150, 3) := by decide +kernel
theorem d_Rd_readExport_37 : decode b_Rd_readExport 37 = .ok (.iload_n 1, 1) := by decide +kernel
theorem d_Rd_readExport_38 : decode b_Rd_readExport 38 = .ok (.iconst 2, 1) := by decide +kernel
theorem d_Rd_readExport_39 : decode b_Rd_readExport 39 = .ok (.iload_n 2, 1) := by decide +kernel
theorem d_Rd_readExport_40 : decode b_Rd_readExport 40 = .ok (.invokevirtual 98, 3) := by decide +kernel
theorem d_Rd_readExport_43 : decode b_Rd_readExport 43 = .ok (.iconst 0, 1) := by decide +kernel
theorem d_Rd_readExport_44 : decode b_Rd_readExport 44 = .ok (.istore_n 3, 1) := by decide +kernel
theorem d_Rd_readExport_45 : decode b_Rd_readExport 45 = .ok (.iload_n 3, 1) := by decide +kernel
theorem d_Rd_readExport_46 : decode b_Rd_readExport 46 = .ok (.bipush 8, 2) := by decide +kernel
theorem d_Rd_readExport_48 : decode b_Rd_readExport 48 = .ok (.if_icmp .ge 55, 3) := by decide +kernel
theorem d_Rd_readExport_51 : decode b_Rd_readExport 51 = .ok (.iload_n 3, 1) := by decide +kernel
theorem d_Rd_readExport_52 : decode b_Rd_readExport 52 = .ok (.iload_n 2, 1) := by decide +kernel
theorem d_Rd_readExport_53 : decode b_Rd_readExport 53 = .ok (.if_icmp .ge 50, 3) := by decide +kernel
theorem d_Rd_readExport_56 : decode b_Rd_readExport 56 = .ok (.aload_n 0, 1) := by decide +kernel
theorem d_Rd_readExport_57 : decode b_Rd_readExport 57 = .ok (.getfield 46, 3) := by decide +kernel
theorem d_Rd_readExport_60 : decode b_Rd_readExport 60 = .ok (.ifCond .ne 43, 3) := by decide +kernel
theorem d_Rd_readExport_63 : decode b_Rd_readExport 63 = .ok (.aload_n 0, 1) := by decide +kernel
theorem d_Rd_readExport_64 : decode b_Rd_readExport 64 = .ok (.invokevirtual 55, 3) := by decide +kernel
theorem d_Rd_readExport_67 : decode b_Rd_readExport 67 = .ok (.istore 4, 2) := by decide +kernel
theorem d_Rd_readExport_69 : decode b_Rd_readExport 69 = .ok (.iload 4, 2) := by decide +kernel
theorem d_Rd_readExport_71 : decode b_Rd_readExport 71 = .ok (.bipush 127, 2) := by decide +kernel
theorem d_Rd_readExport_73 : decode b_Rd_readExport 73 = .ok (.if_icmp .le 8, 3) := by decide +kernel
theorem d_Rd_readExport_76 : decode b_Rd_readExport 76 = .ok (.aload_n 0, 1) := by decide +kernel
theorem d_Rd_readExport_77 : decode b_Rd_readExport 77 = .ok (.iconst 2, 1) := by decide +kernel
theorem d_Rd_readExport_78 : decode b_Rd_readExport 78 = .ok (.invokevirtual 75, 3) := by decide +kernel
theorem d_Rd_readExport_81 : decode b_Rd_readExport 81 = .ok (.aload_n 0, 1) := by decide +kernel
theorem d_Rd_readExport_82 : decode b_Rd_readExport 82 = .ok (.getfield 24, 3) := by decide +kernel
theorem d_Rd_readExport_85 : decode b_Rd_readExport 85 = .ok (.getfield 150, 3) := by decide +kernel
theorem d_Rd_readExport_88 : decode b_Rd_readExport 88 = .ok (.iload_n 1, 1) := by decide +kernel
theorem d_Rd_readExport_89 : decode b_Rd_readExport 89 = .ok (.iconst 3, 1) := by decide +kernel
theorem d_Rd_readExport_90 : decode b_Rd_readExport 90 = .ok (.iload_n 3, 1) := by decide +kernel
theorem d_Rd_readExport_91 : decode b_Rd_readExport 91 = .ok (.iadd, 1) := by decide +kernel
theorem d_Rd_readExport_92 : decode b_Rd_readExport 92 = .ok (.iload 4, 2) := by decide +kernel
theorem d_Rd_readExport_94 : decode b_Rd_readExport 94 = .ok (.invokevirtual 98, 3) := by decide +kernel
theorem d_Rd_readExport_97 : decode b_Rd_readExport 97 = .ok (.iinc 3 1, 3) := by decide +kernel
theorem d_Rd_readExport_100 : decode b_Rd_readExport 100 = .ok (.goto (-55), 3) := by decide +kernel
theorem d_Rd_readExport_103 : decode b_Rd_readExport 103 = .ok (.aload_n 0, 1) := by decide +kernel
theorem d_Rd_readExport_104 : decode b_Rd_readExport 104 = .ok (.getfield 24, 3) := by decide +kernel
theorem d_Rd_readExport_107 : decode b_Rd_readExport 107 = .ok (.getfield 150, 3) := by decide +kernel
theorem d_Rd_readExport_110 : decode b_Rd_readExport 110 = .ok (.iload_n 1, 1) := by decide +kernel
theorem d_Rd_readExport_111 : decode b_Rd_readExport 111 = .ok (.iconst 0, 1) := by decide +kernel
theorem d_Rd_readExport_112 : decode b_Rd_readExport 112 = .ok (.aload_n 0, 1) := by decide +kernel
theorem d_Rd_readExport_113 : decode b_Rd_readExport 113 = .ok (.iconst 3, 1) := by decide +kernel
theorem d_Rd_readExport_114 : decode b_Rd_readExport 114 = .ok (.invokevirtual 126, 3) := by decide +kernel
theorem d_Rd_readExport_117 : decode b_Rd_readExport 117 = .ok (.invokevirtual 98, 3) := by decide +kernel
theorem d_Rd_readExport_120 : decode b_Rd_readExport 120 = .ok (.aload_n 0, 1) := by decide +kernel
theorem d_Rd_readExport_121 : decode b_Rd_readExport 121 = .ok (.getfield 24, 3) := by decide +kernel
theorem d_Rd_readExport_124 : decode b_Rd_readExport 124 = .ok (.getfield 150, 3) := by decide +kernel
theorem d_Rd_readExport_127 : decode b_Rd_readExport 127 = .ok (.iload_n 1, 1) := by decide +kernel
theorem d_Rd_readExport_128 : decode b_Rd_readExport 128 = .ok (.iconst 1, 1) := by decide +kernel
theorem d_Rd_readExport_129 : decode b_Rd_readExport 129 = .ok (.aload_n 0, 1) := by decide +kernel
theorem d_Rd_readExport_130 : decode b_Rd_readExport 130 = .ok (.invokevirtual 85, 3) := by decide +kernel
theorem d_Rd_readExport_133 : decode b_Rd_readExport 133 = .ok (.invokevirtual 98, 3) := by decide +kernel
theorem d_Rd_readExport_136 : decode b_Rd_readExport 136 = .ok (.return_, 1) := by decide +kernel
theorem d_Rd_readConstant_0 : decode b_Rd_readConstant 0 = .ok (.aload_n 0, 1) := by decide +kernel
theorem d_Rd_readConstant_1 : decode b_Rd_readConstant 1 = .ok (.bipush 65, 2) := by decide +kernel
theorem d_Rd_readConstant_3 : decode b_Rd_readConstant 3 = .ok (.invokevirtual 52, 3) := by decide +kernel
theorem d_Rd_readConstant_6 : decode b_Rd_readConstant 6 = .ok (.aload_n 0, 1) := by decide +kernel
theorem d_Rd_readConstant_7 : decode b_Rd_readConstant 7 = .ok (.invokevirtual 147, 3) := by decide +kernel
theorem d_Rd_readConstant_10 : decode b_Rd_readConstant 10 = .ok (.istore_n 1, 1) := by decide +kernel
theorem d_Rd_readConstant_11 : decode b_Rd_readConstant 11 = .ok (.aload_n 0, 1) := by decide +kernel
theorem d_Rd_readConstant_12 : decode b_Rd_readConstant 12 = .ok (.bipush 11, 2) := by decide +kernel
theorem d_Rd_readConstant_14 : decode b_Rd_readConstant 14 = .ok (.invokevirtual 52, 3) := by decide +kernel
theorem d_Rd_readConstant_17 : decode b_Rd_readConstant 17 = .ok (.iload_n 1, 1) := by decide +kernel
theorem d_Rd_readConstant_18 : decode b_Rd_readConstant 18 = .ok (.ireturn, 1) := by decide +kernel
theorem d_Rd_readGlobal_0 : decode b_Rd_readGlobal 0 = .ok (.aload_n 0, 1) := by decide +kernel
theorem d_Rd_readGlobal_1 : decode b_Rd_readGlobal 1 = .ok (.invokevirtual 123, 3) := by decide +kernel
theorem d_Rd_readGlobal_4 : decode b_Rd_readGlobal 4 = .ok (.aload_n 0, 1) := by decide +kernel
theorem d_Rd_readGlobal_5 : decode b_Rd_readGlobal 5 = .ok (.getfield 24, 3) := by decide +kernel
theorem d_Rd_readGlobal_8 : decode b_Rd_readGlobal 8 = .ok (.getfield 139, 3) := by decide +kernel
theorem d_Rd_readGlobal_11 : decode b_Rd_readGlobal 11 = .ok (.invokevirtual 95, 3) := by decide +kernel
theorem d_Rd_readGlobal_14 : decode b_Rd_readGlobal 14 = .ok (.istore_n 1, 1) := by decide +kernel
theorem d_Rd_readGlobal_15 : decode b_Rd_readGlobal 15 = .ok (.aload_n 0, 1) := by decide +kernel
theorem d_Rd_readGlobal_16 : decode b_Rd_readGlobal 16 = .ok (.getfield 24, 3) := by decide +kernel
theorem d_Rd_readGlobal_19 : decode b_Rd_readGlobal 19 = .ok (.getfield 139, 3) := by decide +kernel
theorem d_Rd_readGlobal_22 : decode b_Rd_readGlobal 22 = .ok (.iload_n 1, 1) := by decide +kernel
theorem d_Rd_readGlobal_23 : decode b_Rd_readGlobal 23 = .ok (.iconst 0, 1) := by decide +kernel
theorem d_Rd_readGlobal_24 : decode b_Rd_readGlobal 24 = .ok (.aload_n 0, 1) := by decide +kernel
theorem d_Rd_readGlobal_25 : decode b_Rd_readGlobal 25 = .ok (.iconst 1, 1) := by decide +kernel
theorem d_Rd_readGlobal_26 : decode b_Rd_readGlobal 26 = .ok (.invokevirtual 126, 3) := by decide +kernel
theorem d_Rd_readGlobal_29 : decode b_Rd_readGlobal 29 = .ok (.invokevirtual 98, 3) := by decide +kernel
theorem d_Rd_readGlobal_32 : decode b_Rd_readGlobal 32 = .ok (.aload_n 0, 1) := by decide +kernel
theorem d_Rd_readGlobal_33 : decode b_Rd_readGlobal 33 = .ok (.getfield 24, 3) := by decide +kernel
theorem d_Rd_readGlobal_36 : decode b_Rd_readGlobal 36 = .ok (.getfield 139, 3) := by decide +kernel
theorem d_Rd_readGlobal_39 : decode b_Rd_readGlobal 39 = .ok (.iload_n 1, 1) := by decide +kernel
theorem d_Rd_readGlobal_40 : decode b_Rd_readGlobal 40 = .ok (.iconst 1, 1) := by decide +kernel
theorem d_Rd_readGlobal_41 : decode b_Rd_readGlobal 41 = .ok (.aload_n 0, 1) := by decide +kernel
theorem d_Rd_readGlobal_42 : decode b_Rd_readGlobal 42 = .ok (.invokevirtual 142, 3) := by decide +kernel
theorem d_Rd_readGlobal_45 : decode b_Rd_readGlobal 45 = .ok (.invokevirtual 98, 3) := by decide +kernel
theorem d_Rd_readGlobal_48 : decode b_Rd_readGlobal 48 = .ok (.return_, 1) := by decide +kernel
theorem d_Rd_readMemory_0 : decode b_Rd_readMemory 0 = .ok (.aload_n 0, 1) := by decide +kernel
theorem d_Rd_readMemory_1 : decode b_Rd_readMemory 1 = .ok (.iconst 1, 1) := by decide +kernel
theorem d_Rd_readMemory_2 : decode b_Rd_readMemory 2 = .ok (.invokevirtual 126, 3) := by decide +kernel
theorem d_Rd_readMemory_5 : decode b_Rd_readMemory 5 = .ok (.istore_n 1, 1) := by decide +kernel
theorem d_Rd_readMemory_6 : decode b_Rd_readMemory 6 = .ok (.aload_n 0, 1) := by decide +kernel
theorem d_Rd_readMemory_7 : decode b_Rd_readMemory 7 = .ok (.invokevirtual 85, 3) := by decide +kernel
theorem d_Rd_readMemory_10 : decode b_Rd_readMemory 10 = .ok (.istore_n 2, 1) := by decide +kernel
theorem d_Rd_readMemory_11 : decode b_Rd_readMemory 11 = .ok (.iload_n 2, 1) := by decide +kernel
theorem d_Rd_readMemory_12 : decode b_Rd_readMemory 12 = .ok (.iconst 4, 1) := by decide +kernel
theorem d_Rd_readMemory_13 : decode b_Rd_readMemory 13 = .ok (.invokestatic 88, 3) := by decide +kernel
theorem d_Rd_readMemory_16 : decode b_Rd_readMemory 16 = .ok (.ifCond .eq 8, 3) := by decide +kernel
theorem d_Rd_readMemory_19 : decode b_Rd_readMemory 19 = .ok (.aload_n 0, 1) := by decide +kernel
theorem d_Rd_readMemory_20 : decode b_Rd_readMemory 20 = .ok (.iconst 2, 1) := by decide +kernel
theorem d_Rd_readMemory_21 : decode b_Rd_readMemory 21 = .ok (.invokevirtual 75, 3) := by decide +kernel
theorem d_Rd_readMemory_24 : decode b_Rd_readMemory 24 = .ok (.iload_n 1, 1) := by decide +kernel
theorem d_Rd_readMemory_25 : decode b_Rd_readMemory 25 = .ok (.iconst 1, 1) := by decide +kernel
theorem d_Rd_readMemory_26 : decode b_Rd_readMemory 26 = .ok (.if_icmp .ne 10, 3) := by decide +kernel
theorem d_Rd_readMemory_29 : decode b_Rd_readMemory 29 = .ok (.aload_n 0, 1) := by decide +kernel
theorem d_Rd_readMemory_30 : decode b_Rd_readMemory 30 = .ok (.invokevirtual 85, 3) := by decide +kernel
theorem d_Rd_readMemory_33 : decode b_Rd_readMemory 33 = .ok (.goto 4, 3) := by decide +kernel
theorem d_Rd_readMemory_36 : decode b_Rd_readMemory 36 = .ok (.iconst 4, 1) := by decide +kernel
theorem d_Rd_readMemory_37 : decode b_Rd_readMemory 37 = .ok (.istore_n 3, 1) := by decide +kernel
theorem d_Rd_readMemory_38 : decode b_Rd_readMemory 38 = .ok (.aload_n 0, 1) := by decide +kernel
theorem d_Rd_readMemory_39 : decode b_Rd_readMemory 39 = .ok (.getfield 24, 3) := by decide +kernel
theorem d_Rd_readMemory_42 : decode b_Rd_readMemory 42 = .ok (.iconst 1, 1) := by decide +kernel
theorem d_Rd_readMemory_43 : decode b_Rd_readMemory 43 = .ok (.putfield 129, 3) := by decide +kernel
theorem d_Rd_readMemory_46 : decode b_Rd_readMemory 46 = .ok (.aload_n 0, 1) := by decide +kernel
theorem d_Rd_readMemory_47 : decode b_Rd_readMemory 47 = .ok (.getfield 24, 3) := by decide +kernel
theorem d_Rd_readMemory_50 : decode b_Rd_readMemory 50 = .ok (.iload_n 2, 1) := by decide +kernel
theorem d_Rd_readMemory_51 : decode b_Rd_readMemory 51 = .ok (.putfield 133, 3) := by decide +kernel
theorem d_Rd_readMemory_54 : decode b_Rd_readMemory 54 = .ok (.aload_n 0, 1) := by decide +kernel
theorem d_Rd_readMemory_55 : decode b_Rd_readMemory 55 = .ok (.getfield 24, 3) := by decide +kernel
theorem d_Rd_readMemory_58 : decode b_Rd_readMemory 58 = .ok (.iload_n 3, 1) := by decide +kernel
theorem d_Rd_readMemory_59 : decode b_Rd_readMemory 59 = .ok (.iconst 4, 1) := by decide +kernel
theorem d_Rd_readMemory_60 : decode b_Rd_readMemory 60 = .ok (.invokestatic 88, 3) := by decide +kernel
theorem d_Rd_readMemory_63 : decode b_Rd_readMemory 63 = .ok (.ifCond .eq 7, 3) := by decide +kernel
theorem d_Rd_readMemory_66 : decode b_Rd_readMemory 66 = .ok (.iconst 4, 1) := by decide +kernel
theorem d_Rd_readMemory_67 : decode b_Rd_readMemory 67 = .ok (.goto 4, 3) := by decide +kernel
theorem d_Rd_readMemory_70 : decode b_Rd_readMemory 70 = .ok (.iload_n 3, 1) := by decide +kernel
theorem d_Rd_readMemory_71 : decode b_Rd_readMemory 71 = .ok (.putfield 136, 3) := by decide +kernel
theorem d_Rd_readMemory_74 : decode b_Rd_readMemory 74 = .ok (.return_, 1) := by decide +kernel
theorem d_Rd_readData_0 : decode b_Rd_readData 0 = .ok (.aload_n 0, 1) := by decide +kernel
theorem d_Rd_readData_1 : decode b_Rd_readData 1 = .ok (.getfield 24, 3) := by decide +kernel
theorem d_Rd_readData_4 : decode b_Rd_readData 4 = .ok (.getfield 153, 3) := by decide +kernel
theorem d_Rd_readData_7 : decode b_Rd_readData 7 = .ok (.invokevirtual 95, 3) := by decide +kernel
theorem d_Rd_readData_10 : decode b_Rd_readData 10 = .ok (.istore_n 1, 1) := by decide +kernel
theorem d_Rd_readData_11 : decode b_Rd_readData 11 = .ok (.aload_n 0, 1) := by decide +kernel
theorem d_Rd_readData_12 : decode b_Rd_readData 12 = .ok (.getfield 24, 3) := by decide +kernel
theorem d_Rd_readData_15 : decode b_Rd_readData 15 = .ok (.getfield 153, 3) := by decide +kernel
theorem d_Rd_readData_18 : decode b_Rd_readData 18 = .ok (.iload_n 1, 1) := by decide +kernel
theorem d_Rd_readData_19 : decode b_Rd_readData 19 = .ok (.iconst 0, 1) := by decide +kernel
theorem d_Rd_readData_20 : decode b_Rd_readData 20 = .ok (.aload_n 0, 1) := by decide +kernel
theorem d_Rd_readData_21 : decode b_Rd_readData 21 = .ok (.invokevirtual 85, 3) := by decide +kernel
theorem d_Rd_readData_24 : decode b_Rd_readData 24 = .ok (.invokevirtual 98, 3) := by decide +kernel
theorem d_Rd_readData_27 : decode b_Rd_readData 27 = .ok (.aload_n 0, 1) := by decide +kernel
theorem d_Rd_readData_28 : decode b_Rd_readData 28 = .ok (.getfield 24, 3) := by decide +kernel
theorem d_Rd_readData_31 : decode b_Rd_readData 31 = .ok (.getfield 153, 3) := by decide +kernel
theorem d_Rd_readData_34 : decode b_Rd_readData 34 = .ok (.iload_n 1, 1) := by decide +kernel
theorem d_Rd_readData_35 : decode b_Rd_readData 35 = .ok (.iconst 1, 1) := by decide +kernel
theorem d_Rd_readData_36 : decode b_Rd_readData 36 = .ok (.aload_n 0, 1) := by decide +kernel
theorem d_Rd_readData_37 : decode b_Rd_readData 37 = .ok (.invokevirtual 142, 3) := by decide +kernel
theorem d_Rd_readData_40 : decode b_Rd_readData 40 = .ok (.invokevirtual 98, 3) := by decide +kernel
theorem d_Rd_readData_43 : decode b_Rd_readData 43 = .ok (.aload_n 0, 1) := by decide +kernel
theorem d_Rd_readData_44 : decode b_Rd_readData 44 = .ok (.invokevirtual 82, 3) := by decide +kernel
theorem d_Rd_readData_47 : decode b_Rd_readData 47 = .ok (.istore_n 2, 1) := by decide +kernel
theorem d_Rd_readData_48 : decode b_Rd_readData 48 = .ok (.aload_n 0, 1) := by decide +kernel
theorem d_Rd_readData_49 : decode b_Rd_readData 49 = .ok (.getfield 24, 3) := by decide +kernel
theorem d_Rd_readData_52 : decode b_Rd_readData 52 = .ok (.getfield 153, 3) := by decide +kernel
theorem d_Rd_readData_55 : decode b_Rd_readData 55 = .ok (.iload_n 1, 1) := by decide +kernel
theorem d_Rd_readData_56 : decode b_Rd_readData 56 = .ok (.iconst 2, 1) := by decide +kernel
theorem d_Rd_readData_57 : decode b_Rd_readData 57 = .ok (.aload_n 0, 1) := by decide +kernel
theorem d_Rd_readData_58 : decode b_Rd_readData 58 = .ok (.getfield 37, 3) := by decide +kernel
theorem d_Rd_readData_61 : decode b_Rd_readData 61 = .ok (.invokevirtual 98, 3) := by decide +kernel
theorem d_Rd_readData_64 : decode b_Rd_readData 64 = .ok (.aload_n 0, 1) := by decide +kernel
theorem d_Rd_readData_65 : decode b_Rd_readData 65 = .ok (.getfield 24, 3) := by decide +kernel
theorem d_Rd_readData_68 : decode b_Rd_readData 68 = .ok (.getfield 153, 3) := by decide +kernel
theorem d_Rd_readData_71 : decode b_Rd_readData 71 = .ok (.iload_n 1, 1) := by decide +kernel
theorem d_Rd_readData_72 : decode b_Rd_readData 72 = .ok (.iconst 3, 1) := by decide +kernel
theorem d_Rd_readData_73 : decode b_Rd_readData 73 = .ok (.iload_n 2, 1) := by decide +kernel
theorem d_Rd_readData_74 : decode b_Rd_readData 74 = .ok (.aload_n 0, 1) := by decide +kernel
theorem d_Rd_readData_75 : decode b_Rd_readData 75 = .ok (.getfield 37, 3) := by decide +kernel
theorem d_Rd_readData_78 : decode b_Rd_readData 78 = .ok (.isub, 1) := by decide +kernel
theorem d_Rd_readData_79 : decode b_Rd_readData 79 = .ok (.invokevirtual 98, 3) := by decide +kernel
theorem d_Rd_readData_82 : decode b_Rd_readData 82 = .ok (.aload_n 0, 1) := by decide +kernel
theorem d_Rd_readData_83 : decode b_Rd_readData 83 = .ok (.iload_n 2, 1) := by decide +kernel
theorem d_Rd_readData_84 : decode b_Rd_readData 84 = .ok (.putfield 37, 3) := by decide +kernel
theorem d_Rd_readData_87 : decode b_Rd_readData 87 = .ok (.return_, 1) := by decide +kernel
theorem d_Rd_readValueTypes_0 : decode b_Rd_readValueTypes 0 = .ok (.aload_n 0, 1) := by decide +kernel
theorem d_Rd_readValueTypes_1 : decode b_Rd_readValueTypes 1 = .ok (.invokevirtual 85, 3) := by decide +kernel
theorem d_Rd_readValueTypes_4 : decode b_Rd_readValueTypes 4 = .ok (.istore_n 1, 1) := by decide +kernel
theorem d_Rd_readValueTypes_5 : decode b_Rd_readValueTypes 5 = .ok (.iload_n 1, 1) := by decide +kernel
theorem d_Rd_readValueTypes_6 : decode b_Rd_readValueTypes 6 = .ok (.iconst 4, 1) := by decide +kernel
theorem d_Rd_readValueTypes_7 : decode b_Rd_readValueTypes 7 = .ok (.invokestatic 88, 3) := by decide +kernel
theorem d_Rd_readValueTypes_10 : decode b_Rd_readValueTypes 10 = .ok (.ifCond .eq 8, 3) := by decide +kernel
theorem d_Rd_readValueTypes_13 : decode b_Rd_readValueTypes 13 = .ok (.aload_n 0, 1) := by decide +kernel
theorem d_Rd_readValueTypes_14 : decode b_Rd_readValueTypes 14 = .ok (.iconst 2, 1) := by decide +kernel
theorem d_Rd_readValueTypes_15 : decode b_Rd_readValueTypes 15 = .ok (.invokevirtual 75, 3) := by decide +kernel
theorem d_Rd_readValueTypes_18 : decode b_Rd_readValueTypes 18 = .ok (.iconst 0, 1) := by decide +kernel
theorem d_Rd_readValueTypes_19 : decode b_Rd_readValueTypes 19 = .ok (.istore_n 2, 1) := by decide +kernel
theorem d_Rd_readValueTypes_20 : decode b_Rd_readValueTypes 20 = .ok (.iload_n 2, 1) := by decide +kernel
theorem d_Rd_readValueTypes_21 : decode b_Rd_readValueTypes 21 = .ok (.iconst 4, 1) := by decide +kernel
theorem d_Rd_readValueTypes_22 : decode b_Rd_readValueTypes 22 = .ok (.if_icmp .ge 25, 3) := by decide +kernel
theorem d_Rd_readValueTypes_25 : decode b_Rd_readValueTypes 25 = .ok (.iload_n 2, 1) := by decide +kernel
theorem d_Rd_readValueTypes_26 : decode b_Rd_readValueTypes 26 = .ok (.iload_n 1, 1) := by decide +kernel
theorem d_Rd_readValueTypes_27 : decode b_Rd_readValueTypes 27 = .ok (.if_icmp .ge 20, 3) := by decide +kernel
theorem d_Rd_readValueTypes_30 : decode b_Rd_readValueTypes 30 = .ok (.aload_n 0, 1) := by decide +kernel
theorem d_Rd_readValueTypes_31 : decode b_Rd_readValueTypes 31 = .ok (.getfield 46, 3) := by decide +kernel
theorem d_Rd_readValueTypes_34 : decode b_Rd_readValueTypes 34 = .ok (.ifCond .ne 13, 3) := by decide +kernel
theorem d_Rd_readValueTypes_37 : decode b_Rd_readValueTypes 37 = .ok (.aload_n 0, 1) := by decide +kernel
theorem d_Rd_readValueTypes_38 : decode b_Rd_readValueTypes 38 = .ok (.invokevirtual 123, 3) := by decide +kernel
theorem d_Rd_readValueTypes_41 : decode b_Rd_readValueTypes 41 = .ok (.iinc 2 1, 3) := by decide +kernel
theorem d_Rd_readValueTypes_44 : decode b_Rd_readValueTypes 44 = .ok (.goto (-24), 3) := by decide +kernel
theorem d_Rd_readValueTypes_47 : decode b_Rd_readValueTypes 47 = .ok (.iload_n 1, 1) := by decide +kernel
theorem d_Rd_readValueTypes_48 : decode b_Rd_readValueTypes 48 = .ok (.ireturn, 1) := by decide +kernel
theorem d_Rd_readType_0 : decode b_Rd_readType 0 = .ok (.aload_n 0, 1) := by decide +kernel
theorem d_Rd_readType_1 : decode b_Rd_readType 1 = .ok (.bipush 96, 2) := by decide +kernel
theorem d_Rd_readType_3 : decode b_Rd_readType 3 = .ok (.invokevirtual 52, 3) := by decide +kernel
theorem d_Rd_readType_6 : decode b_Rd_readType 6 = .ok (.aload_n 0, 1) := by decide +kernel
theorem d_Rd_readType_7 : decode b_Rd_readType 7 = .ok (.getfield 24, 3) := by decide +kernel
theorem d_Rd_readType_10 : decode b_Rd_readType 10 = .ok (.getfield 117, 3) := by decide +kernel
theorem d_Rd_readType_13 : decode b_Rd_readType 13 = .ok (.invokevirtual 95, 3) := by decide +kernel
theorem d_Rd_readType_16 : decode b_Rd_readType 16 = .ok (.istore_n 1, 1) := by decide +kernel
theorem d_Rd_readType_17 : decode b_Rd_readType 17 = .ok (.aload_n 0, 1) := by decide +kernel
theorem d_Rd_readType_18 : decode b_Rd_readType 18 = .ok (.getfield 24, 3) := by decide +kernel
theorem d_Rd_readType_21 : decode b_Rd_readType 21 = .ok (.getfield 117, 3) := by decide +kernel
theorem d_Rd_readType_24 : decode b_Rd_readType 24 = .ok (.iload_n 1, 1) := by decide +kernel
theorem d_Rd_readType_25 : decode b_Rd_readType 25 = .ok (.iconst 0, 1) := by decide +kernel
theorem d_Rd_readType_26 : decode b_Rd_readType 26 = .ok (.aload_n 0, 1) := by decide +kernel
theorem d_Rd_readType_27 : decode b_Rd_readType 27 = .ok (.invokevirtual 120, 3) := by decide +kernel
theorem d_Rd_readType_30 : decode b_Rd_readType 30 = .ok (.invokevirtual 98, 3) := by decide +kernel
theorem d_Rd_readType_33 : decode b_Rd_readType 33 = .ok (.aload_n 0, 1) := by decide +kernel
theorem d_Rd_readType_34 : decode b_Rd_readType 34 = .ok (.getfield 24, 3) := by decide +kernel
theorem d_Rd_readType_37 : decode b_Rd_readType 37 = .ok (.getfield 117, 3) := by decide +kernel
theorem d_Rd_readType_40 : decode b_Rd_readType 40 = .ok (.iload_n 1, 1) := by decide +kernel
theorem d_Rd_readType_41 : decode b_Rd_readType 41 = .ok (.iconst 1, 1) := by decide +kernel
theorem d_Rd_readType_42 : decode b_Rd_readType 42 = .ok (.aload_n 0, 1) := by decide +kernel
theorem d_Rd_readType_43 : decode b_Rd_readType 43 = .ok (.invokevirtual 120, 3) := by decide +kernel
theorem d_Rd_readType_46 : decode b_Rd_readType 46 = .ok (.invokevirtual 98, 3) := by decide +kernel
theorem d_Rd_readType_49 : decode b_Rd_readType 49 = .ok (.return_, 1) := by decide +kernel
theorem d_Rd_readSection_0 : decode b_Rd_readSection 0 = .ok (.aload_n 0, 1) := by decide +kernel
theorem d_Rd_readSection_1 : decode b_Rd_readSection 1 = .ok (.aload_n 0, 1) := by decide +kernel
theorem d_Rd_readSection_2 : decode b_Rd_readSection 2 = .ok (.invokevirtual 82, 3) := by decide +kernel
theorem d_Rd_readSection_5 : decode b_Rd_readSection 5 = .ok (.putfield 40, 3) := by decide +kernel
theorem d_Rd_readSection_8 : decode b_Rd_readSection 8 = .ok (.aload_n 0, 1) := by decide +kernel
theorem d_Rd_readSection_9 : decode b_Rd_readSection 9 = .ok (.invokevirtual 85, 3) := by decide +kernel
theorem d_Rd_readSection_12 : decode b_Rd_readSection 12 = .ok (.istore_n 2, 1) := by decide +kernel
theorem d_Rd_readSection_13 : decode b_Rd_readSection 13 = .ok (.iload_n 1, 1) := by decide +kernel
theorem d_Rd_readSection_14 : decode b_Rd_readSection 14 = .ok (.bipush 10, 2) := by decide +kernel
theorem d_Rd_readSection_16 : decode b_Rd_readSection 16 = .ok (.if_icmp .ne 22, 3) := by decide +kernel
theorem d_Rd_readSection_19 : decode b_Rd_readSection 19 = .ok (.iload_n 2, 1) := by decide +kernel
theorem d_Rd_readSection_20 : decode b_Rd_readSection 20 = .ok (.aload_n 0, 1) := by decide +kernel
theorem d_Rd_readSection_21 : decode b_Rd_readSection 21 = .ok (.getfield 24, 3) := by decide +kernel
theorem d_Rd_readSection_24 : decode b_Rd_readSection 24 = .ok (.getfield 66, 3) := by decide +kernel
theorem d_Rd_readSection_27 : decode b_Rd_readSection 27 = .ok (.invokevirtual 70, 3) := by decide +kernel
theorem d_Rd_readSection_30 : decode b_Rd_readSection 30 = .ok (.if_icmp .eq 8, 3) := by decide +kernel
theorem d_Rd_readSection_33 : decode b_Rd_readSection 33 = .ok (.aload_n 0, 1) := by decide +kernel
theorem d_Rd_readSection_34 : decode b_Rd_readSection 34 = .ok (.iconst 1, 1) := by decide +kernel
theorem d_Rd_readSection_35 : decode b_Rd_readSection 35 = .ok (.invokevirtual 75, 3) := by decide +kernel
theorem d_Rd_readSection_38 : decode b_Rd_readSection 38 = .ok (.iload_n 2, 1) := by decide +kernel
theorem d_Rd_readSection_39 : decode b_Rd_readSection 39 = .ok (.iload_n 1, 1) := by decide +kernel
theorem d_Rd_readSection_40 : decode b_Rd_readSection 40 = .ok (.invokestatic 78, 3) := by decide +kernel
theorem d_Rd_readSection_43 : decode b_Rd_readSection 43 = .ok (.invokestatic 88, 3) := by decide +kernel
theorem d_Rd_readSection_46 : decode b_Rd_readSection 46 = .ok (.ifCond .eq 8, 3) := by decide +kernel
theorem d_Rd_readSection_49 : decode b_Rd_readSection 49 = .ok (.aload_n 0, 1) := by decide +kernel
theorem d_Rd_readSection_50 : decode b_Rd_readSection 50 = .ok (.iconst 2, 1) := by decide +kernel
theorem d_Rd_readSection_51 : decode b_Rd_readSection 51 = .ok (.invokevirtual 75, 3) := by decide +kernel
theorem d_Rd_readSection_54 : decode b_Rd_readSection 54 = .ok (.iconst 0, 1) := by decide +kernel
theorem d_Rd_readSection_55 : decode b_Rd_readSection 55 = .ok (.istore_n 3, 1) := by decide +kernel
theorem d_Rd_readSection_56 : decode b_Rd_readSection 56 = .ok (.iload_n 3, 1) := by decide +kernel
theorem d_Rd_readSection_57 : decode b_Rd_readSection 57 = .ok (.bipush 8, 2) := by decide +kernel
theorem d_Rd_readSection_59 : decode b_Rd_readSection 59 = .ok (.if_icmp .ge 143, 3) := by decide +kernel
theorem d_Rd_readSection_62 : decode b_Rd_readSection 62 = .ok (.iload_n 3, 1) := by decide +kernel
theorem d_Rd_readSection_63 : decode b_Rd_readSection 63 = .ok (.iload_n 2, 1) := by decide +kernel
theorem d_Rd_readSection_64 : decode b_Rd_readSection 64 = .ok (.if_icmp .ge 138, 3) := by decide +kernel
theorem d_Rd_readSection_67 : decode b_Rd_readSection 67 = .ok (.aload_n 0, 1) := by decide +kernel
theorem d_Rd_readSection_68 : decode b_Rd_readSection 68 = .ok (.getfield 46, 3) := by decide +kernel
theorem d_Rd_readSection_71 : decode b_Rd_readSection 71 = .ok (.ifCond .ne 131, 3) := by decide +kernel
theorem d_Rd_readSection_74 : decode b_Rd_readSection 74 = .ok (.iload_n 1, 1) := by decide +kernel
theorem d_Rd_readSection_75 : decode b_Rd_readSection 75 = .ok (.tableswitch 117 1 10 #[53, 117, 60, 117, 88, 95, 102, 117, 117, 109], 53) := by decide +kernel
theorem d_Rd_readSection_128 : decode b_Rd_readSection 128 = .ok (.aload_n 0, 1) := by decide +kernel
theorem d_Rd_readSection_129 : decode b_Rd_readSection 129 = .ok (.invokevirtual 92, 3) := by decide +kernel
theorem d_Rd_readSection_132 : decode b_Rd_readSection 132 = .ok (.goto 64, 3) := by decide +kernel
theorem d_Rd_readSection_135 : decode b_Rd_readSection 135 = .ok (.aload_n 0, 1) := by decide +kernel
theorem d_Rd_readSection_136 : decode b_Rd_readSection 136 = .ok (.getfield 24, 3) := by decide +kernel
theorem d_Rd_readSection_139 : decode b_Rd_readSection 139 = .ok (.getfield 66, 3) := by decide +kernel
theorem d_Rd_readSection_142 : decode b_Rd_readSection 142 = .ok (.aload_n 0, 1) := by decide +kernel
theorem d_Rd_readSection_143 : decode b_Rd_readSection 143 = .ok (.getfield 24, 3) := by decide +kernel
theorem d_Rd_readSection_146 : decode b_Rd_readSection 146 = .ok (.getfield 66, 3) := by decide +kernel
theorem d_Rd_readSection_149 : decode b_Rd_readSection 149 = .ok (.invokevirtual 95, 3) := by decide +kernel
theorem d_Rd_readSection_152 : decode b_Rd_readSection 152 = .ok (.iconst 0, 1) := by decide +kernel
theorem d_Rd_readSection_153 : decode b_Rd_readSection 153 = .ok (.aload_n 0, 1) := by decide +kernel
theorem d_Rd_readSection_154 : decode b_Rd_readSection 154 = .ok (.invokevirtual 85, 3) := by decide +kernel
theorem d_Rd_readSection_157 : decode b_Rd_readSection 157 = .ok (.invokevirtual 98, 3) := by decide +kernel
theorem d_Rd_readSection_160 : decode b_Rd_readSection 160 = .ok (.goto 36, 3) := by decide +kernel
theorem d_Rd_readSection_163 : decode b_Rd_readSection 163 = .ok (.aload_n 0, 1) := by decide +kernel
theorem d_Rd_readSection_164 : decode b_Rd_readSection 164 = .ok (.invokevirtual 102, 3) := by decide +kernel
theorem d_Rd_readSection_167 : decode b_Rd_readSection 167 = .ok (.goto 29, 3) := by decide +kernel
theorem d_Rd_readSection_170 : decode b_Rd_readSection 170 = .ok (.aload_n 0, 1) := by decide +kernel
theorem d_Rd_readSection_171 : decode b_Rd_readSection 171 = .ok (.invokevirtual 105, 3) := by decide +kernel
theorem d_Rd_readSection_174 : decode b_Rd_readSection 174 = .ok (.goto 22, 3) := by decide +kernel
theorem d_Rd_readSection_177 : decode b_Rd_readSection 177 = .ok (.aload_n 0, 1) := by decide +kernel
theorem d_Rd_readSection_178 : decode b_Rd_readSection 178 = .ok (.invokevirtual 108, 3) := by decide +kernel
theorem d_Rd_readSection_181 : decode b_Rd_readSection 181 = .ok (.goto 15, 3) := by decide +kernel
theorem d_Rd_readSection_184 : decode b_Rd_readSection 184 = .ok (.aload_n 0, 1) := by decide +kernel
theorem d_Rd_readSection_185 : decode b_Rd_readSection 185 = .ok (.iload_n 3, 1) := by decide +kernel
theorem d_Rd_readSection_186 : decode b_Rd_readSection 186 = .ok (.invokevirtual 111, 3) := by decide +kernel
theorem d_Rd_readSection_189 : decode b_Rd_readSection 189 = .ok (.goto 7, 3) := by decide +kernel
theorem d_Rd_readSection_192 : decode b_Rd_readSection 192 = .ok (.aload_n 0, 1) := by decide +kernel
theorem d_Rd_readSection_193 : decode b_Rd_readSection 193 = .ok (.invokevirtual 114, 3) := by decide +kernel
theorem d_Rd_readSection_196 : decode b_Rd_readSection 196 = .ok (.iinc 3 1, 3) := by decide +kernel
theorem d_Rd_readSection_199 : decode b_Rd_readSection 199 = .ok (.goto (-143), 3) := by decide +kernel
theorem d_Rd_readSection_202 : decode b_Rd_readSection 202 = .ok (.aload_n 0, 1) := by decide +kernel
theorem d_Rd_readSection_203 : decode b_Rd_readSection 203 = .ok (.getfield 37, 3) := by decide +kernel
theorem d_Rd_readSection_206 : decode b_Rd_readSection 206 = .ok (.aload_n 0, 1) := by decide +kernel
theorem d_Rd_readSection_207 : decode b_Rd_readSection 207 = .ok (.getfield 40, 3) := by decide +kernel
theorem d_Rd_readSection_210 : decode b_Rd_readSection 210 = .ok (.if_icmp .eq 8, 3) := by decide +kernel
theorem d_Rd_readSection_213 : decode b_Rd_readSection 213 = .ok (.aload_n 0, 1) := by decide +kernel
theorem d_Rd_readSection_214 : decode b_Rd_readSection 214 = .ok (.iconst 1, 1) := by decide +kernel
theorem d_Rd_readSection_215 : decode b_Rd_readSection 215 = .ok (.invokevirtual 75, 3) := by decide +kernel
theorem d_Rd_readSection_218 : decode b_Rd_readSection 218 = .ok (.aload_n 0, 1) := by decide +kernel
theorem d_Rd_readSection_219 : decode b_Rd_readSection 219 = .ok (.aload_n 0, 1) := by decide +kernel
theorem d_Rd_readSection_220 : decode b_Rd_readSection 220 = .ok (.getfield 28, 3) := by decide +kernel
theorem d_Rd_readSection_223 : decode b_Rd_readSection 223 = .ok (.putfield 40, 3) := by decide +kernel
theorem d_Rd_readSection_226 : decode b_Rd_readSection 226 = .ok (.return_, 1) := by decide +kernel
