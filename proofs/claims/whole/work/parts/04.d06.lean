theorem d_Store_work_0 : decode b_Store_work 0 = .ok (.iload_n 1, 1) := by decide +kernel
theorem d_Store_work_1 : decode b_Store_work 1 = .ok (.invokestatic 68, 3) := by decide +kernel
theorem d_Store_work_4 : decode b_Store_work 4 = .ok (.ifCond .eq 11, 3) := by decide +kernel
theorem d_Store_work_7 : decode b_Store_work 7 = .ok (.aload_n 0, 1) := by decide +kernel
theorem d_Store_work_8 : decode b_Store_work 8 = .ok (.iload_n 1, 1) := by decide +kernel
theorem d_Store_work_9 : decode b_Store_work 9 = .ok (.iload 4, 2) := by decide +kernel
theorem d_Store_work_11 : decode b_Store_work 11 = .ok (.invokevirtual 74, 3) := by decide +kernel
theorem d_Store_work_14 : decode b_Store_work 14 = .ok (.ireturn, 1) := by decide +kernel
theorem d_Store_work_15 : decode b_Store_work 15 = .ok (.iload_n 1, 1) := by decide +kernel
theorem d_Store_work_16 : decode b_Store_work 16 = .ok (.invokestatic 77, 3) := by decide +kernel
theorem d_Store_work_19 : decode b_Store_work 19 = .ok (.ifCond .eq 12, 3) := by decide +kernel
theorem d_Store_work_22 : decode b_Store_work 22 = .ok (.aload_n 0, 1) := by decide +kernel
theorem d_Store_work_23 : decode b_Store_work 23 = .ok (.iload_n 1, 1) := by decide +kernel
theorem d_Store_work_24 : decode b_Store_work 24 = .ok (.iload_n 2, 1) := by decide +kernel
theorem d_Store_work_25 : decode b_Store_work 25 = .ok (.iload 4, 2) := by decide +kernel
theorem d_Store_work_27 : decode b_Store_work 27 = .ok (.invokevirtual 80, 3) := by decide +kernel
theorem d_Store_work_30 : decode b_Store_work 30 = .ok (.ireturn, 1) := by decide +kernel
theorem d_Store_work_31 : decode b_Store_work 31 = .ok (.aload_n 0, 1) := by decide +kernel
theorem d_Store_work_32 : decode b_Store_work 32 = .ok (.iload_n 1, 1) := by decide +kernel
theorem d_Store_work_33 : decode b_Store_work 33 = .ok (.iload_n 2, 1) := by decide +kernel
theorem d_Store_work_34 : decode b_Store_work 34 = .ok (.iload_n 3, 1) := by decide +kernel
theorem d_Store_work_35 : decode b_Store_work 35 = .ok (.iload 4, 2) := by decide +kernel
theorem d_Store_work_37 : decode b_Store_work 37 = .ok (.invokevirtual 84, 3) := by decide +kernel
theorem d_Store_work_40 : decode b_Store_work 40 = .ok (.iconst 0, 1) := by decide +kernel
theorem d_Store_work_41 : decode b_Store_work 41 = .ok (.ireturn, 1) := by decide +kernel
theorem d_Integer_bitCount_0 : decode b_Integer_bitCount 0 = .ok (.iload_n 0, 1) := by decide +kernel
theorem d_Integer_bitCount_1 : decode b_Integer_bitCount 1 = .ok (.iload_n 0, 1) := by decide +kernel
theorem d_Integer_bitCount_2 : decode b_Integer_bitCount 2 = .ok (.iconst 1, 1) := by decide +kernel
theorem d_Integer_bitCount_3 : decode b_Integer_bitCount 3 = .ok (.iushr, 1) := by decide +kernel
theorem d_Integer_bitCount_4 : decode b_Integer_bitCount 4 = .ok (.ldc_w 265, 3) := by decide +kernel
theorem d_Integer_bitCount_7 : decode b_Integer_bitCount 7 = .ok (.iand, 1) := by decide +kernel
theorem d_Integer_bitCount_8 : decode b_Integer_bitCount 8 = .ok (.isub, 1) := by decide +kernel
theorem d_Integer_bitCount_9 : decode b_Integer_bitCount 9 = .ok (.istore_n 0, 1) := by decide +kernel
theorem d_Integer_bitCount_10 : decode b_Integer_bitCount 10 = .ok (.iload_n 0, 1) := by decide +kernel
theorem d_Integer_bitCount_11 : decode b_Integer_bitCount 11 = .ok (.ldc_w 266, 3) := by decide +kernel
theorem d_Integer_bitCount_14 : decode b_Integer_bitCount 14 = .ok (.iand, 1) := by decide +kernel
theorem d_Integer_bitCount_15 : decode b_Integer_bitCount 15 = .ok (.iload_n 0, 1) := by decide +kernel
theorem d_Integer_bitCount_16 : decode b_Integer_bitCount 16 = .ok (.iconst 2, 1) := by decide +kernel
theorem d_Integer_bitCount_17 : decode b_Integer_bitCount 17 = .ok (.iushr, 1) := by decide +kernel
theorem d_Integer_bitCount_18 : decode b_Integer_bitCount 18 = .ok (.ldc_w 266, 3) := by decide +kernel
theorem d_Integer_bitCount_21 : decode b_Integer_bitCount 21 = .ok (.iand, 1) := by decide +kernel
theorem d_Integer_bitCount_22 : decode b_Integer_bitCount 22 = .ok (.iadd, 1) := by decide +kernel
theorem d_Integer_bitCount_23 : decode b_Integer_bitCount 23 = .ok (.istore_n 0, 1) := by decide +kernel
theorem d_Integer_bitCount_24 : decode b_Integer_bitCount 24 = .ok (.iload_n 0, 1) := by decide +kernel
theorem d_Integer_bitCount_25 : decode b_Integer_bitCount 25 = .ok (.iload_n 0, 1) := by decide +kernel
theorem d_Integer_bitCount_26 : decode b_Integer_bitCount 26 = .ok (.iconst 4, 1) := by decide +kernel
theorem d_Integer_bitCount_27 : decode b_Integer_bitCount 27 = .ok (.iushr, 1) := by decide +kernel
theorem d_Integer_bitCount_28 : decode b_Integer_bitCount 28 = .ok (.iadd, 1) := by decide +kernel
theorem d_Integer_bitCount_29 : decode b_Integer_bitCount 29 = .ok (.ldc_w 267, 3) := by decide +kernel
theorem d_Integer_bitCount_32 : decode b_Integer_bitCount 32 = .ok (.iand, 1) := by decide +kernel
theorem d_Integer_bitCount_33 : decode b_Integer_bitCount 33 = .ok (.istore_n 0, 1) := by decide +kernel
theorem d_Integer_bitCount_34 : decode b_Integer_bitCount 34 = .ok (.iload_n 0, 1) := by decide +kernel
theorem d_Integer_bitCount_35 : decode b_Integer_bitCount 35 = .ok (.iload_n 0, 1) := by decide +kernel
theorem d_Integer_bitCount_36 : decode b_Integer_bitCount 36 = .ok (.bipush 8, 2) := by decide +kernel
theorem d_Integer_bitCount_38 : decode b_Integer_bitCount 38 = .ok (.iushr, 1) := by decide +kernel
theorem d_Integer_bitCount_39 : decode b_Integer_bitCount 39 = .ok (.iadd, 1) := by decide +kernel
theorem d_Integer_bitCount_40 : decode b_Integer_bitCount 40 = .ok (.istore_n 0, 1) := by decide +kernel
theorem d_Integer_bitCount_41 : decode b_Integer_bitCount 41 = .ok (.iload_n 0, 1) := by decide +kernel
theorem d_Integer_bitCount_42 : decode b_Integer_bitCount 42 = .ok (.iload_n 0, 1) := by decide +kernel
theorem d_Integer_bitCount_43 : decode b_Integer_bitCount 43 = .ok (.bipush 16, 2) := by decide +kernel
theorem d_Integer_bitCount_45 : decode b_Integer_bitCount 45 = .ok (.iushr, 1) := by decide +kernel
theorem d_Integer_bitCount_46 : decode b_Integer_bitCount 46 = .ok (.iadd, 1) := by decide +kernel
theorem d_Integer_bitCount_47 : decode b_Integer_bitCount 47 = .ok (.istore_n 0, 1) := by decide +kernel
theorem d_Integer_bitCount_48 : decode b_Integer_bitCount 48 = .ok (.iload_n 0, 1) := by decide +kernel
theorem d_Integer_bitCount_49 : decode b_Integer_bitCount 49 = .ok (.bipush 63, 2) := by decide +kernel
theorem d_Integer_bitCount_51 : decode b_Integer_bitCount 51 = .ok (.iand, 1) := by decide +kernel
theorem d_Integer_bitCount_52 : decode b_Integer_bitCount 52 = .ok (.ireturn, 1) := by decide +kernel
theorem d_Integer_numberOfTrailingZeros_0 : decode b_Integer_numberOfTrailingZeros 0 = .ok (.iload_n 0, 1) := by decide +kernel
theorem d_Integer_numberOfTrailingZeros_1 : decode b_Integer_numberOfTrailingZeros 1 = .ok (.iconst (-1), 1) := by decide +kernel
theorem d_Integer_numberOfTrailingZeros_2 : decode b_Integer_numberOfTrailingZeros 2 = .ok (.ixor, 1) := by decide +kernel
theorem d_Integer_numberOfTrailingZeros_3 : decode b_Integer_numberOfTrailingZeros 3 = .ok (.iload_n 0, 1) := by decide +kernel
theorem d_Integer_numberOfTrailingZeros_4 : decode b_Integer_numberOfTrailingZeros 4 = .ok (.iconst 1, 1) := by decide +kernel
theorem d_Integer_numberOfTrailingZeros_5 : decode b_Integer_numberOfTrailingZeros 5 = .ok (.isub, 1) := by decide +kernel
theorem d_Integer_numberOfTrailingZeros_6 : decode b_Integer_numberOfTrailingZeros 6 = .ok (.iand, 1) := by decide +kernel
theorem d_Integer_numberOfTrailingZeros_7 : decode b_Integer_numberOfTrailingZeros 7 = .ok (.istore_n 0, 1) := by decide +kernel
theorem d_Integer_numberOfTrailingZeros_8 : decode b_Integer_numberOfTrailingZeros 8 = .ok (.iload_n 0, 1) := by decide +kernel
theorem d_Integer_numberOfTrailingZeros_9 : decode b_Integer_numberOfTrailingZeros 9 = .ok (.ifCond .gt 8, 3) := by decide +kernel
theorem d_Integer_numberOfTrailingZeros_12 : decode b_Integer_numberOfTrailingZeros 12 = .ok (.iload_n 0, 1) := by decide +kernel
theorem d_Integer_numberOfTrailingZeros_13 : decode b_Integer_numberOfTrailingZeros 13 = .ok (.bipush 32, 2) := by decide +kernel
theorem d_Integer_numberOfTrailingZeros_15 : decode b_Integer_numberOfTrailingZeros 15 = .ok (.iand, 1) := by decide +kernel
theorem d_Integer_numberOfTrailingZeros_16 : decode b_Integer_numberOfTrailingZeros 16 = .ok (.ireturn, 1) := by decide +kernel
theorem d_Integer_numberOfTrailingZeros_17 : decode b_Integer_numberOfTrailingZeros 17 = .ok (.iconst 1, 1) := by decide +kernel
theorem d_Integer_numberOfTrailingZeros_18 : decode b_Integer_numberOfTrailingZeros 18 = .ok (.istore_n 1, 1) := by decide +kernel
theorem d_Integer_numberOfTrailingZeros_19 : decode b_Integer_numberOfTrailingZeros 19 = .ok (.iload_n 0, 1) := by decide +kernel
theorem d_Integer_numberOfTrailingZeros_20 : decode b_Integer_numberOfTrailingZeros 20 = .ok (.ldc_w 264, 3) := by decide +kernel
theorem d_Integer_numberOfTrailingZeros_23 : decode b_Integer_numberOfTrailingZeros 23 = .ok (.if_icmp .le 11, 3) := by decide +kernel
theorem d_Integer_numberOfTrailingZeros_26 : decode b_Integer_numberOfTrailingZeros 26 = .ok (.iinc 1 16, 3) := by decide +kernel
theorem d_Integer_numberOfTrailingZeros_29 : decode b_Integer_numberOfTrailingZeros 29 = .ok (.iload_n 0, 1) := by decide +kernel
theorem d_Integer_numberOfTrailingZeros_30 : decode b_Integer_numberOfTrailingZeros 30 = .ok (.bipush 16, 2) := by decide +kernel
theorem d_Integer_numberOfTrailingZeros_32 : decode b_Integer_numberOfTrailingZeros 32 = .ok (.iushr, 1) := by decide +kernel
theorem d_Integer_numberOfTrailingZeros_33 : decode b_Integer_numberOfTrailingZeros 33 = .ok (.istore_n 0, 1) := by decide +kernel
theorem d_Integer_numberOfTrailingZeros_34 : decode b_Integer_numberOfTrailingZeros 34 = .ok (.iload_n 0, 1) := by decide +kernel
theorem d_Integer_numberOfTrailingZeros_35 : decode b_Integer_numberOfTrailingZeros 35 = .ok (.sipush 256, 3) := by decide +kernel
theorem d_Integer_numberOfTrailingZeros_38 : decode b_Integer_numberOfTrailingZeros 38 = .ok (.if_icmp .le 11, 3) := by decide +kernel
theorem d_Integer_numberOfTrailingZeros_41 : decode b_Integer_numberOfTrailingZeros 41 = .ok (.iinc 1 8, 3) := by decide +kernel
theorem d_Integer_numberOfTrailingZeros_44 : decode b_Integer_numberOfTrailingZeros 44 = .ok (.iload_n 0, 1) := by decide +kernel
theorem d_Integer_numberOfTrailingZeros_45 : decode b_Integer_numberOfTrailingZeros 45 = .ok (.bipush 8, 2) := by decide +kernel
theorem d_Integer_numberOfTrailingZeros_47 : decode b_Integer_numberOfTrailingZeros 47 = .ok (.iushr, 1) := by decide +kernel
theorem d_Integer_numberOfTrailingZeros_48 : decode b_Integer_numberOfTrailingZeros 48 = .ok (.istore_n 0, 1) := by decide +kernel
theorem d_Integer_numberOfTrailingZeros_49 : decode b_Integer_numberOfTrailingZeros 49 = .ok (.iload_n 0, 1) := by decide +kernel
theorem d_Integer_numberOfTrailingZeros_50 : decode b_Integer_numberOfTrailingZeros 50 = .ok (.bipush 16, 2) := by decide +kernel
theorem d_Integer_numberOfTrailingZeros_52 : decode b_Integer_numberOfTrailingZeros 52 = .ok (.if_icmp .le 10, 3) := by decide +kernel
theorem d_Integer_numberOfTrailingZeros_55 : decode b_Integer_numberOfTrailingZeros 55 = .ok (.iinc 1 4, 3) := by decide +kernel
theorem d_Integer_numberOfTrailingZeros_58 : decode b_Integer_numberOfTrailingZeros 58 = .ok (.iload_n 0, 1) := by decide +kernel
theorem d_Integer_numberOfTrailingZeros_59 : decode b_Integer_numberOfTrailingZeros 59 = .ok (.iconst 4, 1) := by decide +kernel
theorem d_Integer_numberOfTrailingZeros_60 : decode b_Integer_numberOfTrailingZeros 60 = .ok (.iushr, 1) := by decide +kernel
theorem d_Integer_numberOfTrailingZeros_61 : decode b_Integer_numberOfTrailingZeros 61 = .ok (.istore_n 0, 1) := by decide +kernel
theorem d_Integer_numberOfTrailingZeros_62 : decode b_Integer_numberOfTrailingZeros 62 = .ok (.iload_n 0, 1) := by decide +kernel
theorem d_Integer_numberOfTrailingZeros_63 : decode b_Integer_numberOfTrailingZeros 63 = .ok (.iconst 4, 1) := by decide +kernel
theorem d_Integer_numberOfTrailingZeros_64 : decode b_Integer_numberOfTrailingZeros 64 = .ok (.if_icmp .le 10, 3) := by decide +kernel
theorem d_Integer_numberOfTrailingZeros_67 : decode b_Integer_numberOfTrailingZeros 67 = .ok (.iinc 1 2, 3) := by decide +kernel
theorem d_Integer_numberOfTrailingZeros_70 : decode b_Integer_numberOfTrailingZeros 70 = .ok (.iload_n 0, 1) := by decide +kernel
theorem d_Integer_numberOfTrailingZeros_71 : decode b_Integer_numberOfTrailingZeros 71 = .ok (.iconst 2, 1) := by decide +kernel
theorem d_Integer_numberOfTrailingZeros_72 : decode b_Integer_numberOfTrailingZeros 72 = .ok (.iushr, 1) := by decide +kernel
theorem d_Integer_numberOfTrailingZeros_73 : decode b_Integer_numberOfTrailingZeros 73 = .ok (.istore_n 0, 1) := by decide +kernel
theorem d_Integer_numberOfTrailingZeros_74 : decode b_Integer_numberOfTrailingZeros 74 = .ok (.iload_n 1, 1) := by decide +kernel
theorem d_Integer_numberOfTrailingZeros_75 : decode b_Integer_numberOfTrailingZeros 75 = .ok (.iload_n 0, 1) := by decide +kernel
theorem d_Integer_numberOfTrailingZeros_76 : decode b_Integer_numberOfTrailingZeros 76 = .ok (.iconst 1, 1) := by decide +kernel
theorem d_Integer_numberOfTrailingZeros_77 : decode b_Integer_numberOfTrailingZeros 77 = .ok (.iushr, 1) := by decide +kernel
theorem d_Integer_numberOfTrailingZeros_78 : decode b_Integer_numberOfTrailingZeros 78 = .ok (.iadd, 1) := by decide +kernel
theorem d_Integer_numberOfTrailingZeros_79 : decode b_Integer_numberOfTrailingZeros 79 = .ok (.ireturn, 1) := by decide +kernel
theorem d_Integer_numberOfLeadingZeros_0 : decode b_Integer_numberOfLeadingZeros 0 = .ok (.iload_n 0, 1) := by decide +kernel
theorem d_Integer_numberOfLeadingZeros_1 : decode b_Integer_numberOfLeadingZeros 1 = .ok (.ifCond .gt 14, 3) := by decide +kernel
theorem d_Integer_numberOfLeadingZeros_4 : decode b_Integer_numberOfLeadingZeros 4 = .ok (.iload_n 0, 1) := by decide +kernel
theorem d_Integer_numberOfLeadingZeros_5 : decode b_Integer_numberOfLeadingZeros 5 = .ok (.ifCond .ne 8, 3) := by decide +kernel
theorem d_Integer_numberOfLeadingZeros_8 : decode b_Integer_numberOfLeadingZeros 8 = .ok (.bipush 32, 2) := by decide +kernel
theorem d_Integer_numberOfLeadingZeros_10 : decode b_Integer_numberOfLeadingZeros 10 = .ok (.goto 4, 3) := by decide +kernel
theorem d_Integer_numberOfLeadingZeros_13 : decode b_Integer_numberOfLeadingZeros 13 = .ok (.iconst 0, 1) := by decide +kernel
theorem d_Integer_numberOfLeadingZeros_14 : decode b_Integer_numberOfLeadingZeros 14 = .ok (.ireturn, 1) := by decide +kernel
theorem d_Integer_numberOfLeadingZeros_15 : decode b_Integer_numberOfLeadingZeros 15 = .ok (.bipush 31, 2) := by decide +kernel
theorem d_Integer_numberOfLeadingZeros_17 : decode b_Integer_numberOfLeadingZeros 17 = .ok (.istore_n 1, 1) := by decide +kernel
theorem d_Integer_numberOfLeadingZeros_18 : decode b_Integer_numberOfLeadingZeros 18 = .ok (.iload_n 0, 1) := by decide +kernel
theorem d_Integer_numberOfLeadingZeros_19 : decode b_Integer_numberOfLeadingZeros 19 = .ok (.ldc_w 264, 3) := by decide +kernel
theorem d_Integer_numberOfLeadingZeros_22 : decode b_Integer_numberOfLeadingZeros 22 = .ok (.if_icmp .lt 11, 3) := by decide +kernel
theorem d_Integer_numberOfLeadingZeros_25 : decode b_Integer_numberOfLeadingZeros 25 = .ok (.iinc 1 (-16), 3) := by decide +kernel
theorem d_Integer_numberOfLeadingZeros_28 : decode b_Integer_numberOfLeadingZeros 28 = .ok (.iload_n 0, 1) := by decide +kernel
theorem d_Integer_numberOfLeadingZeros_29 : decode b_Integer_numberOfLeadingZeros 29 = .ok (.bipush 16, 2) := by decide +kernel
theorem d_Integer_numberOfLeadingZeros_31 : decode b_Integer_numberOfLeadingZeros 31 = .ok (.iushr, 1) := by decide +kernel
theorem d_Integer_numberOfLeadingZeros_32 : decode b_Integer_numberOfLeadingZeros 32 = .ok (.istore_n 0, 1) := by decide +kernel
theorem d_Integer_numberOfLeadingZeros_33 : decode b_Integer_numberOfLeadingZeros 33 = .ok (.iload_n 0, 1) := by decide +kernel
theorem d_Integer_numberOfLeadingZeros_34 : decode b_Integer_numberOfLeadingZeros 34 = .ok (.sipush 256, 3) := by decide +kernel
theorem d_Integer_numberOfLeadingZeros_37 : decode b_Integer_numberOfLeadingZeros 37 = .ok (.if_icmp .lt 11, 3) := by decide +kernel
theorem d_Integer_numberOfLeadingZeros_40 : decode b_Integer_numberOfLeadingZeros 40 = .ok (.iinc 1 (-8), 3) := by decide +kernel
theorem d_Integer_numberOfLeadingZeros_43 : decode b_Integer_numberOfLeadingZeros 43 = .ok (.iload_n 0, 1) := by decide +kernel
theorem d_Integer_numberOfLeadingZeros_44 : decode b_Integer_numberOfLeadingZeros 44 = .ok (.bipush 8, 2) := by decide +kernel
theorem d_Integer_numberOfLeadingZeros_46 : decode b_Integer_numberOfLeadingZeros 46 = .ok (.iushr, 1) := by decide +kernel
theorem d_Integer_numberOfLeadingZeros_47 : decode b_Integer_numberOfLeadingZeros 47 = .ok (.istore_n 0, 1) := by decide +kernel
theorem d_Integer_numberOfLeadingZeros_48 : decode b_Integer_numberOfLeadingZeros 48 = .ok (.iload_n 0, 1) := by decide +kernel
theorem d_Integer_numberOfLeadingZeros_49 : decode b_Integer_numberOfLeadingZeros 49 = .ok (.bipush 16, 2) := by decide +kernel
theorem d_Integer_numberOfLeadingZeros_51 : decode b_Integer_numberOfLeadingZeros 51 = .ok (.if_icmp .lt 10, 3) := by decide +kernel
theorem d_Integer_numberOfLeadingZeros_54 : decode b_Integer_numberOfLeadingZeros 54 = .ok (.iinc 1 (-4), 3) := by decide +kernel
theorem d_Integer_numberOfLeadingZeros_57 : decode b_Integer_numberOfLeadingZeros 57 = .ok (.iload_n 0, 1) := by decide +kernel
theorem d_Integer_numberOfLeadingZeros_58 : decode b_Integer_numberOfLeadingZeros 58 = .ok (.iconst 4, 1) := by decide +kernel
theorem d_Integer_numberOfLeadingZeros_59 : decode b_Integer_numberOfLeadingZeros 59 = .ok (.iushr, 1) := by decide +kernel
theorem d_Integer_numberOfLeadingZeros_60 : decode b_Integer_numberOfLeadingZeros 60 = .ok (.istore_n 0, 1) := by decide +kernel
theorem d_Integer_numberOfLeadingZeros_61 : decode b_Integer_numberOfLeadingZeros 61 = .ok (.iload_n 0, 1) := by decide +kernel
theorem d_Integer_numberOfLeadingZeros_62 : decode b_Integer_numberOfLeadingZeros 62 = .ok (.iconst 4, 1) := by decide +kernel
theorem d_Integer_numberOfLeadingZeros_63 : decode b_Integer_numberOfLeadingZeros 63 = .ok (.if_icmp .lt 10, 3) := by decide +kernel
theorem d_Integer_numberOfLeadingZeros_66 : decode b_Integer_numberOfLeadingZeros 66 = .ok (.iinc 1 (-2), 3) := by decide +kernel
theorem d_Integer_numberOfLeadingZeros_69 : decode b_Integer_numberOfLeadingZeros 69 = .ok (.iload_n 0, 1) := by decide +kernel
theorem d_Integer_numberOfLeadingZeros_70 : decode b_Integer_numberOfLeadingZeros 70 = .ok (.iconst 2, 1) := by decide +kernel
theorem d_Integer_numberOfLeadingZeros_71 : decode b_Integer_numberOfLeadingZeros 71 = .ok (.iushr, 1) := by decide +kernel
theorem d_Integer_numberOfLeadingZeros_72 : decode b_Integer_numberOfLeadingZeros 72 = .ok (.istore_n 0, 1) := by decide +kernel
theorem d_Integer_numberOfLeadingZeros_73 : decode b_Integer_numberOfLeadingZeros 73 = .ok (.iload_n 1, 1) := by decide +kernel
theorem d_Integer_numberOfLeadingZeros_74 : decode b_Integer_numberOfLeadingZeros 74 = .ok (.iload_n 0, 1) := by decide +kernel
theorem d_Integer_numberOfLeadingZeros_75 : decode b_Integer_numberOfLeadingZeros 75 = .ok (.iconst 1, 1) := by decide +kernel
theorem d_Integer_numberOfLeadingZeros_76 : decode b_Integer_numberOfLeadingZeros 76 = .ok (.iushr, 1) := by decide +kernel
theorem d_Integer_numberOfLeadingZeros_77 : decode b_Integer_numberOfLeadingZeros 77 = .ok (.isub, 1) := by decide +kernel
theorem d_Integer_numberOfLeadingZeros_78 : decode b_Integer_numberOfLeadingZeros 78 = .ok (.ireturn, 1) := by decide +kernel
theorem d_SE_enter_0 : decode b_SE_enter 0 = .ok (.aload_n 0, 1) := by decide +kernel
theorem d_SE_enter_1 : decode b_SE_enter 1 = .ok (.getfield 25, 3) := by decide +kernel
theorem d_SE_enter_4 : decode b_SE_enter 4 = .ok (.aload_n 0, 1) := by decide +kernel
theorem d_SE_enter_5 : decode b_SE_enter 5 = .ok (.getfield 36, 3) := by decide +kernel
theorem d_SE_enter_8 : decode b_SE_enter 8 = .ok (.iconst 1, 1) := by decide +kernel
theorem d_SE_enter_9 : decode b_SE_enter 9 = .ok (.isub, 1) := by decide +kernel
theorem d_SE_enter_10 : decode b_SE_enter 10 = .ok (.iload_n 1, 1) := by decide +kernel
theorem d_SE_enter_11 : decode b_SE_enter 11 = .ok (.invokevirtual 40, 3) := by decide +kernel
theorem d_SE_enter_14 : decode b_SE_enter 14 = .ok (.aload_n 0, 1) := by decide +kernel
theorem d_SE_enter_15 : decode b_SE_enter 15 = .ok (.iconst 0, 1) := by decide +kernel
theorem d_SE_enter_16 : decode b_SE_enter 16 = .ok (.putfield 43, 3) := by decide +kernel
theorem d_SE_enter_19 : decode b_SE_enter 19 = .ok (.aload_n 0, 1) := by decide +kernel
theorem d_SE_enter_20 : decode b_SE_enter 20 = .ok (.aload_n 0, 1) := by decide +kernel
theorem d_SE_enter_21 : decode b_SE_enter 21 = .ok (.getfield 46, 3) := by decide +kernel
theorem d_SE_enter_24 : decode b_SE_enter 24 = .ok (.aload_n 0, 1) := by decide +kernel
theorem d_SE_enter_25 : decode b_SE_enter 25 = .ok (.getfield 32, 3) := by decide +kernel
theorem d_SE_enter_28 : decode b_SE_enter 28 = .ok (.getfield 49, 3) := by decide +kernel
theorem d_SE_enter_31 : decode b_SE_enter 31 = .ok (.iload_n 1, 1) := by decide +kernel
theorem d_SE_enter_32 : decode b_SE_enter 32 = .ok (.iconst 1, 1) := by decide +kernel
theorem d_SE_enter_33 : decode b_SE_enter 33 = .ok (.invokevirtual 53, 3) := by decide +kernel
theorem d_SE_enter_36 : decode b_SE_enter 36 = .ok (.iadd, 1) := by decide +kernel
theorem d_SE_enter_37 : decode b_SE_enter 37 = .ok (.putfield 57, 3) := by decide +kernel
theorem d_SE_enter_40 : decode b_SE_enter 40 = .ok (.aload_n 0, 1) := by decide +kernel
theorem d_SE_enter_41 : decode b_SE_enter 41 = .ok (.aload_n 0, 1) := by decide +kernel
theorem d_SE_enter_42 : decode b_SE_enter 42 = .ok (.getfield 32, 3) := by decide +kernel
theorem d_SE_enter_45 : decode b_SE_enter 45 = .ok (.getfield 49, 3) := by decide +kernel
theorem d_SE_enter_48 : decode b_SE_enter 48 = .ok (.iload_n 1, 1) := by decide +kernel
theorem d_SE_enter_49 : decode b_SE_enter 49 = .ok (.iconst 2, 1) := by decide +kernel
theorem d_SE_enter_50 : decode b_SE_enter 50 = .ok (.invokevirtual 53, 3) := by decide +kernel
theorem d_SE_enter_53 : decode b_SE_enter 53 = .ok (.putfield 60, 3) := by decide +kernel
theorem d_SE_enter_56 : decode b_SE_enter 56 = .ok (.return_, 1) := by decide +kernel
theorem d_SE_leave_0 : decode b_SE_leave 0 = .ok (.aload_n 0, 1) := by decide +kernel
theorem d_SE_leave_1 : decode b_SE_leave 1 = .ok (.aload_n 0, 1) := by decide +kernel
theorem d_SE_leave_2 : decode b_SE_leave 2 = .ok (.aload_n 0, 1) := by decide +kernel
theorem d_SE_leave_3 : decode b_SE_leave 3 = .ok (.getfield 57, 3) := by decide +kernel
theorem d_SE_leave_6 : decode b_SE_leave 6 = .ok (.aload_n 0, 1) := by decide +kernel
theorem d_SE_leave_7 : decode b_SE_leave 7 = .ok (.getfield 32, 3) := by decide +kernel
theorem d_SE_leave_10 : decode b_SE_leave 10 = .ok (.aload_n 0, 1) := by decide +kernel
theorem d_SE_leave_11 : decode b_SE_leave 11 = .ok (.getfield 25, 3) := by decide +kernel
theorem d_SE_leave_14 : decode b_SE_leave 14 = .ok (.aload_n 0, 1) := by decide +kernel
theorem d_SE_leave_15 : decode b_SE_leave 15 = .ok (.getfield 36, 3) := by decide +kernel
theorem d_SE_leave_18 : decode b_SE_leave 18 = .ok (.iconst 1, 1) := by decide +kernel
theorem d_SE_leave_19 : decode b_SE_leave 19 = .ok (.isub, 1) := by decide +kernel
theorem d_SE_leave_20 : decode b_SE_leave 20 = .ok (.invokevirtual 121, 3) := by decide +kernel
theorem d_SE_leave_23 : decode b_SE_leave 23 = .ok (.invokevirtual 142, 3) := by decide +kernel
theorem d_SE_leave_26 : decode b_SE_leave 26 = .ok (.invokevirtual 145, 3) := by decide +kernel
theorem d_SE_leave_29 : decode b_SE_leave 29 = .ok (.putfield 57, 3) := by decide +kernel
theorem d_SE_leave_32 : decode b_SE_leave 32 = .ok (.aload_n 0, 1) := by decide +kernel
theorem d_SE_leave_33 : decode b_SE_leave 33 = .ok (.aload_n 0, 1) := by decide +kernel
theorem d_SE_leave_34 : decode b_SE_leave 34 = .ok (.getfield 29, 3) := by decide +kernel
theorem d_SE_leave_37 : decode b_SE_leave 37 = .ok (.aload_n 0, 1) := by decide +kernel
theorem d_SE_leave_38 : decode b_SE_leave 38 = .ok (.getfield 36, 3) := by decide +kernel
theorem d_SE_leave_41 : decode b_SE_leave 41 = .ok (.iconst 1, 1) := by decide +kernel
theorem d_SE_leave_42 : decode b_SE_leave 42 = .ok (.isub, 1) := by decide +kernel
theorem d_SE_leave_43 : decode b_SE_leave 43 = .ok (.invokevirtual 121, 3) := by decide +kernel
theorem d_SE_leave_46 : decode b_SE_leave 46 = .ok (.putfield 43, 3) := by decide +kernel
theorem d_SE_leave_49 : decode b_SE_leave 49 = .ok (.return_, 1) := by decide +kernel
theorem d_SE_pass_0 : decode b_SE_pass 0 = .ok (.aload_n 0, 1) := by decide +kernel
theorem d_SE_pass_1 : decode b_SE_pass 1 = .ok (.getfield 32, 3) := by decide +kernel
theorem d_SE_pass_4 : decode b_SE_pass 4 = .ok (.getfield 63, 3) := by decide +kernel
theorem d_SE_pass_7 : decode b_SE_pass 7 = .ok (.aload_n 0, 1) := by decide +kernel
theorem d_SE_pass_8 : decode b_SE_pass 8 = .ok (.getfield 60, 3) := by decide +kernel
theorem d_SE_pass_11 : decode b_SE_pass 11 = .ok (.iconst 0, 1) := by decide +kernel
theorem d_SE_pass_12 : decode b_SE_pass 12 = .ok (.invokevirtual 53, 3) := by decide +kernel
theorem d_SE_pass_15 : decode b_SE_pass 15 = .ok (.istore_n 1, 1) := by decide +kernel
theorem d_SE_pass_16 : decode b_SE_pass 16 = .ok (.iload_n 1, 1) := by decide +kernel
theorem d_SE_pass_17 : decode b_SE_pass 17 = .ok (.iconst 5, 1) := by decide +kernel
theorem d_SE_pass_18 : decode b_SE_pass 18 = .ok (.if_icmp .ne 24, 3) := by decide +kernel
theorem d_SE_pass_21 : decode b_SE_pass 21 = .ok (.aload_n 0, 1) := by decide +kernel
theorem d_SE_pass_22 : decode b_SE_pass 22 = .ok (.aload_n 0, 1) := by decide +kernel
theorem d_SE_pass_23 : decode b_SE_pass 23 = .ok (.getfield 32, 3) := by decide +kernel
theorem d_SE_pass_26 : decode b_SE_pass 26 = .ok (.getfield 63, 3) := by decide +kernel
theorem d_SE_pass_29 : decode b_SE_pass 29 = .ok (.aload_n 0, 1) := by decide +kernel
theorem d_SE_pass_30 : decode b_SE_pass 30 = .ok (.getfield 60, 3) := by decide +kernel
theorem d_SE_pass_33 : decode b_SE_pass 33 = .ok (.iconst 3, 1) := by decide +kernel
theorem d_SE_pass_34 : decode b_SE_pass 34 = .ok (.invokevirtual 53, 3) := by decide +kernel
theorem d_SE_pass_37 : decode b_SE_pass 37 = .ok (.putfield 60, 3) := by decide +kernel
theorem d_SE_pass_40 : decode b_SE_pass 40 = .ok (.iconst 1, 1) := by decide +kernel
theorem d_SE_pass_41 : decode b_SE_pass 41 = .ok (.ireturn, 1) := by decide +kernel
theorem d_SE_pass_42 : decode b_SE_pass 42 = .ok (.iload_n 1, 1) := by decide +kernel
theorem d_SE_pass_43 : decode b_SE_pass 43 = .ok (.bipush 11, 2) := by decide +kernel
theorem d_SE_pass_45 : decode b_SE_pass 45 = .ok (.if_icmp .eq 5, 3) := by decide +kernel
theorem d_SE_pass_48 : decode b_SE_pass 48 = .ok (.iconst 0, 1) := by decide +kernel
theorem d_SE_pass_49 : decode b_SE_pass 49 = .ok (.ireturn, 1) := by decide +kernel
theorem d_SE_pass_50 : decode b_SE_pass 50 = .ok (.aload_n 0, 1) := by decide +kernel
theorem d_SE_pass_51 : decode b_SE_pass 51 = .ok (.getfield 43, 3) := by decide +kernel
theorem d_SE_pass_54 : decode b_SE_pass 54 = .ok (.ifCond .le 26, 3) := by decide +kernel
theorem d_SE_pass_57 : decode b_SE_pass 57 = .ok (.aload_n 0, 1) := by decide +kernel
theorem d_SE_pass_58 : decode b_SE_pass 58 = .ok (.dup, 1) := by decide +kernel
theorem d_SE_pass_59 : decode b_SE_pass 59 = .ok (.getfield 43, 3) := by decide +kernel
theorem d_SE_pass_62 : decode b_SE_pass 62 = .ok (.iconst 1, 1) := by decide +kernel
theorem d_SE_pass_63 : decode b_SE_pass 63 = .ok (.isub, 1) := by decide +kernel
theorem d_SE_pass_64 : decode b_SE_pass 64 = .ok (.putfield 43, 3) := by decide +kernel
theorem d_SE_pass_67 : decode b_SE_pass 67 = .ok (.aload_n 0, 1) := by decide +kernel
theorem d_SE_pass_68 : decode b_SE_pass 68 = .ok (.dup, 1) := by decide +kernel
theorem d_SE_pass_69 : decode b_SE_pass 69 = .ok (.getfield 60, 3) := by decide +kernel
theorem d_SE_pass_72 : decode b_SE_pass 72 = .ok (.iconst 1, 1) := by decide +kernel
theorem d_SE_pass_73 : decode b_SE_pass 73 = .ok (.iadd, 1) := by decide +kernel
theorem d_SE_pass_74 : decode b_SE_pass 74 = .ok (.putfield 60, 3) := by decide +kernel
theorem d_SE_pass_77 : decode b_SE_pass 77 = .ok (.goto 7, 3) := by decide +kernel
theorem d_SE_pass_80 : decode b_SE_pass 80 = .ok (.aload_n 0, 1) := by decide +kernel
theorem d_SE_pass_81 : decode b_SE_pass 81 = .ok (.invokevirtual 68, 3) := by decide +kernel
theorem d_SE_pass_84 : decode b_SE_pass 84 = .ok (.iconst 1, 1) := by decide +kernel
theorem d_SE_pass_85 : decode b_SE_pass 85 = .ok (.ireturn, 1) := by decide +kernel
theorem d_SE_call_0 : decode b_SE_call 0 = .ok (.aload_n 0, 1) := by decide +kernel
theorem d_SE_call_1 : decode b_SE_call 1 = .ok (.getfield 29, 3) := by decide +kernel
theorem d_SE_call_4 : decode b_SE_call 4 = .ok (.aload_n 0, 1) := by decide +kernel
theorem d_SE_call_5 : decode b_SE_call 5 = .ok (.getfield 36, 3) := by decide +kernel
theorem d_SE_call_8 : decode b_SE_call 8 = .ok (.iconst 1, 1) := by decide +kernel
theorem d_SE_call_9 : decode b_SE_call 9 = .ok (.isub, 1) := by decide +kernel
theorem d_SE_call_10 : decode b_SE_call 10 = .ok (.aload_n 0, 1) := by decide +kernel
theorem d_SE_call_11 : decode b_SE_call 11 = .ok (.getfield 43, 3) := by decide +kernel
theorem d_SE_call_14 : decode b_SE_call 14 = .ok (.invokevirtual 40, 3) := by decide +kernel
theorem d_SE_call_17 : decode b_SE_call 17 = .ok (.aload_n 0, 1) := by decide +kernel
theorem d_SE_call_18 : decode b_SE_call 18 = .ok (.aload_n 0, 1) := by decide +kernel
theorem d_SE_call_19 : decode b_SE_call 19 = .ok (.getfield 57, 3) := by decide +kernel
theorem d_SE_call_22 : decode b_SE_call 22 = .ok (.aload_n 0, 1) := by decide +kernel
theorem d_SE_call_23 : decode b_SE_call 23 = .ok (.getfield 32, 3) := by decide +kernel
theorem d_SE_call_26 : decode b_SE_call 26 = .ok (.iload_n 1, 1) := by decide +kernel
theorem d_SE_call_27 : decode b_SE_call 27 = .ok (.invokevirtual 132, 3) := by decide +kernel
theorem d_SE_call_30 : decode b_SE_call 30 = .ok (.invokevirtual 135, 3) := by decide +kernel
theorem d_SE_call_33 : decode b_SE_call 33 = .ok (.ifCond .eq 8, 3) := by decide +kernel
theorem d_SE_call_36 : decode b_SE_call 36 = .ok (.aload_n 0, 1) := by decide +kernel
theorem d_SE_call_37 : decode b_SE_call 37 = .ok (.iload_n 1, 1) := by decide +kernel
theorem d_SE_call_38 : decode b_SE_call 38 = .ok (.invokevirtual 139, 3) := by decide +kernel
theorem d_SE_call_41 : decode b_SE_call 41 = .ok (.return_, 1) := by decide +kernel
theorem d_SE_pop_0 : decode b_SE_pop 0 = .ok (.aload_n 0, 1) := by decide +kernel
theorem d_SE_pop_1 : decode b_SE_pop 1 = .ok (.dup, 1) := by decide +kernel
theorem d_SE_pop_2 : decode b_SE_pop 2 = .ok (.getfield 57, 3) := by decide +kernel
theorem d_SE_pop_5 : decode b_SE_pop 5 = .ok (.iconst 1, 1) := by decide +kernel
theorem d_SE_pop_6 : decode b_SE_pop 6 = .ok (.isub, 1) := by decide +kernel
theorem d_SE_pop_7 : decode b_SE_pop 7 = .ok (.putfield 57, 3) := by decide +kernel
theorem d_SE_pop_10 : decode b_SE_pop 10 = .ok (.aload_n 0, 1) := by decide +kernel
theorem d_SE_pop_11 : decode b_SE_pop 11 = .ok (.getfield 79, 3) := by decide +kernel
theorem d_SE_pop_14 : decode b_SE_pop 14 = .ok (.getfield 118, 3) := by decide +kernel
theorem d_SE_pop_17 : decode b_SE_pop 17 = .ok (.aload_n 0, 1) := by decide +kernel
theorem d_SE_pop_18 : decode b_SE_pop 18 = .ok (.getfield 57, 3) := by decide +kernel
theorem d_SE_pop_21 : decode b_SE_pop 21 = .ok (.invokevirtual 121, 3) := by decide +kernel
theorem d_SE_pop_24 : decode b_SE_pop 24 = .ok (.ireturn, 1) := by decide +kernel
theorem d_SE_branch_0 : decode b_SE_branch 0 = .ok (.aload_n 0, 1) := by decide +kernel
theorem d_SE_branch_1 : decode b_SE_branch 1 = .ok (.getfield 43, 3) := by decide +kernel
theorem d_SE_branch_4 : decode b_SE_branch 4 = .ok (.iconst 1, 1) := by decide +kernel
theorem d_SE_branch_5 : decode b_SE_branch 5 = .ok (.isub, 1) := by decide +kernel
theorem d_SE_branch_6 : decode b_SE_branch 6 = .ok (.iload_n 1, 1) := by decide +kernel
theorem d_SE_branch_7 : decode b_SE_branch 7 = .ok (.isub, 1) := by decide +kernel
theorem d_SE_branch_8 : decode b_SE_branch 8 = .ok (.istore_n 2, 1) := by decide +kernel
theorem d_SE_branch_9 : decode b_SE_branch 9 = .ok (.iload_n 2, 1) := by decide +kernel
theorem d_SE_branch_10 : decode b_SE_branch 10 = .ok (.ifCond .ge 8, 3) := by decide +kernel
theorem d_SE_branch_13 : decode b_SE_branch 13 = .ok (.aload_n 0, 1) := by decide +kernel
theorem d_SE_branch_14 : decode b_SE_branch 14 = .ok (.invokevirtual 68, 3) := by decide +kernel
theorem d_SE_branch_17 : decode b_SE_branch 17 = .ok (.return_, 1) := by decide +kernel
theorem d_SE_branch_18 : decode b_SE_branch 18 = .ok (.aload_n 0, 1) := by decide +kernel
theorem d_SE_branch_19 : decode b_SE_branch 19 = .ok (.getfield 36, 3) := by decide +kernel
theorem d_SE_branch_22 : decode b_SE_branch 22 = .ok (.iconst 1, 1) := by decide +kernel
theorem d_SE_branch_23 : decode b_SE_branch 23 = .ok (.isub, 1) := by decide +kernel
theorem d_SE_branch_24 : decode b_SE_branch 24 = .ok (.bipush 10, 2) := by decide +kernel
theorem d_SE_branch_26 : decode b_SE_branch 26 = .ok (.imul, 1) := by decide +kernel
theorem d_SE_branch_27 : decode b_SE_branch 27 = .ok (.iload_n 2, 1) := by decide +kernel
theorem d_SE_branch_28 : decode b_SE_branch 28 = .ok (.iadd, 1) := by decide +kernel
theorem d_SE_branch_29 : decode b_SE_branch 29 = .ok (.istore_n 3, 1) := by decide +kernel
theorem d_SE_branch_30 : decode b_SE_branch 30 = .ok (.aload_n 0, 1) := by decide +kernel
theorem d_SE_branch_31 : decode b_SE_branch 31 = .ok (.getfield 16, 3) := by decide +kernel
theorem d_SE_branch_34 : decode b_SE_branch 34 = .ok (.iload_n 3, 1) := by decide +kernel
theorem d_SE_branch_35 : decode b_SE_branch 35 = .ok (.iconst 0, 1) := by decide +kernel
theorem d_SE_branch_36 : decode b_SE_branch 36 = .ok (.invokevirtual 53, 3) := by decide +kernel
theorem d_SE_branch_39 : decode b_SE_branch 39 = .ok (.istore 4, 2) := by decide +kernel
theorem d_SE_branch_41 : decode b_SE_branch 41 = .ok (.aload_n 0, 1) := by decide +kernel
theorem d_SE_branch_42 : decode b_SE_branch 42 = .ok (.getfield 16, 3) := by decide +kernel
theorem d_SE_branch_45 : decode b_SE_branch 45 = .ok (.iload_n 3, 1) := by decide +kernel
theorem d_SE_branch_46 : decode b_SE_branch 46 = .ok (.iconst 1, 1) := by decide +kernel
theorem d_SE_branch_47 : decode b_SE_branch 47 = .ok (.invokevirtual 53, 3) := by decide +kernel
theorem d_SE_branch_50 : decode b_SE_branch 50 = .ok (.istore 5, 2) := by decide +kernel
theorem d_SE_branch_52 : decode b_SE_branch 52 = .ok (.aload_n 0, 1) := by decide +kernel
theorem d_SE_branch_53 : decode b_SE_branch 53 = .ok (.getfield 32, 3) := by decide +kernel
theorem d_SE_branch_56 : decode b_SE_branch 56 = .ok (.iload 4, 2) := by decide +kernel
theorem d_SE_branch_58 : decode b_SE_branch 58 = .ok (.invokevirtual 126, 3) := by decide +kernel
theorem d_SE_branch_61 : decode b_SE_branch 61 = .ok (.istore 6, 2) := by decide +kernel
theorem d_SE_branch_63 : decode b_SE_branch 63 = .ok (.iload 6, 2) := by decide +kernel
theorem d_SE_branch_65 : decode b_SE_branch 65 = .ok (.ifCond .le 31, 3) := by decide +kernel
theorem d_SE_branch_68 : decode b_SE_branch 68 = .ok (.aload_n 0, 1) := by decide +kernel
theorem d_SE_branch_69 : decode b_SE_branch 69 = .ok (.getfield 79, 3) := by decide +kernel
theorem d_SE_branch_72 : decode b_SE_branch 72 = .ok (.getfield 118, 3) := by decide +kernel
theorem d_SE_branch_75 : decode b_SE_branch 75 = .ok (.iload 5, 2) := by decide +kernel
theorem d_SE_branch_77 : decode b_SE_branch 77 = .ok (.aload_n 0, 1) := by decide +kernel
theorem d_SE_branch_78 : decode b_SE_branch 78 = .ok (.getfield 79, 3) := by decide +kernel
theorem d_SE_branch_81 : decode b_SE_branch 81 = .ok (.getfield 118, 3) := by decide +kernel
theorem d_SE_branch_84 : decode b_SE_branch 84 = .ok (.aload_n 0, 1) := by decide +kernel
theorem d_SE_branch_85 : decode b_SE_branch 85 = .ok (.getfield 57, 3) := by decide +kernel
theorem d_SE_branch_88 : decode b_SE_branch 88 = .ok (.iconst 1, 1) := by decide +kernel
theorem d_SE_branch_89 : decode b_SE_branch 89 = .ok (.isub, 1) := by decide +kernel
theorem d_SE_branch_90 : decode b_SE_branch 90 = .ok (.invokevirtual 121, 3) := by decide +kernel
theorem d_SE_branch_93 : decode b_SE_branch 93 = .ok (.invokevirtual 40, 3) := by decide +kernel
theorem d_SE_branch_96 : decode b_SE_branch 96 = .ok (.aload_n 0, 1) := by decide +kernel
theorem d_SE_branch_97 : decode b_SE_branch 97 = .ok (.iload 5, 2) := by decide +kernel
theorem d_SE_branch_99 : decode b_SE_branch 99 = .ok (.iload 6, 2) := by decide +kernel
theorem d_SE_branch_101 : decode b_SE_branch 101 = .ok (.iadd, 1) := by decide +kernel
theorem d_SE_branch_102 : decode b_SE_branch 102 = .ok (.putfield 57, 3) := by decide +kernel
theorem d_SE_branch_105 : decode b_SE_branch 105 = .ok (.aload_n 0, 1) := by decide +kernel
theorem d_SE_branch_106 : decode b_SE_branch 106 = .ok (.getfield 32, 3) := by decide +kernel
theorem d_SE_branch_109 : decode b_SE_branch 109 = .ok (.getfield 63, 3) := by decide +kernel
theorem d_SE_branch_112 : decode b_SE_branch 112 = .ok (.iload 4, 2) := by decide +kernel
theorem d_SE_branch_114 : decode b_SE_branch 114 = .ok (.iconst 0, 1) := by decide +kernel
theorem d_SE_branch_115 : decode b_SE_branch 115 = .ok (.invokevirtual 53, 3) := by decide +kernel
theorem d_SE_branch_118 : decode b_SE_branch 118 = .ok (.iconst 3, 1) := by decide +kernel
theorem d_SE_branch_119 : decode b_SE_branch 119 = .ok (.if_icmp .ne 7, 3) := by decide +kernel
theorem d_SE_branch_122 : decode b_SE_branch 122 = .ok (.iconst 1, 1) := by decide +kernel
theorem d_SE_branch_123 : decode b_SE_branch 123 = .ok (.goto 4, 3) := by decide +kernel
theorem d_SE_branch_126 : decode b_SE_branch 126 = .ok (.iconst 0, 1) := by decide +kernel
theorem d_SE_branch_127 : decode b_SE_branch 127 = .ok (.istore 7, 2) := by decide +kernel
theorem d_SE_branch_129 : decode b_SE_branch 129 = .ok (.aload_n 0, 1) := by decide +kernel
theorem d_SE_branch_130 : decode b_SE_branch 130 = .ok (.iload 7, 2) := by decide +kernel
theorem d_SE_branch_132 : decode b_SE_branch 132 = .ok (.ifCond .eq 9, 3) := by decide +kernel
theorem d_SE_branch_135 : decode b_SE_branch 135 = .ok (.iload_n 2, 1) := by decide +kernel
theorem d_SE_branch_136 : decode b_SE_branch 136 = .ok (.iconst 1, 1) := by decide +kernel
theorem d_SE_branch_137 : decode b_SE_branch 137 = .ok (.iadd, 1) := by decide +kernel
theorem d_SE_branch_138 : decode b_SE_branch 138 = .ok (.goto 4, 3) := by decide +kernel
theorem d_SE_branch_141 : decode b_SE_branch 141 = .ok (.iload_n 2, 1) := by decide +kernel
theorem d_SE_branch_142 : decode b_SE_branch 142 = .ok (.putfield 43, 3) := by decide +kernel
theorem d_SE_branch_145 : decode b_SE_branch 145 = .ok (.aload_n 0, 1) := by decide +kernel
theorem d_SE_branch_146 : decode b_SE_branch 146 = .ok (.iload 7, 2) := by decide +kernel
theorem d_SE_branch_148 : decode b_SE_branch 148 = .ok (.ifCond .eq 10, 3) := by decide +kernel
theorem d_SE_branch_151 : decode b_SE_branch 151 = .ok (.iload 4, 2) := by decide +kernel
theorem d_SE_branch_153 : decode b_SE_branch 153 = .ok (.iconst 1, 1) := by decide +kernel
theorem d_SE_branch_154 : decode b_SE_branch 154 = .ok (.iadd, 1) := by decide +kernel
theorem d_SE_branch_155 : decode b_SE_branch 155 = .ok (.goto 14, 3) := by decide +kernel
theorem d_SE_branch_158 : decode b_SE_branch 158 = .ok (.aload_n 0, 1) := by decide +kernel
theorem d_SE_branch_159 : decode b_SE_branch 159 = .ok (.getfield 32, 3) := by decide +kernel
theorem d_SE_branch_162 : decode b_SE_branch 162 = .ok (.iload 4, 2) := by decide +kernel
theorem d_SE_branch_164 : decode b_SE_branch 164 = .ok (.invokevirtual 129, 3) := by decide +kernel
theorem d_SE_branch_167 : decode b_SE_branch 167 = .ok (.iconst 1, 1) := by decide +kernel
theorem d_SE_branch_168 : decode b_SE_branch 168 = .ok (.iadd, 1) := by decide +kernel
theorem d_SE_branch_169 : decode b_SE_branch 169 = .ok (.putfield 60, 3) := by decide +kernel
theorem d_SE_branch_172 : decode b_SE_branch 172 = .ok (.return_, 1) := by decide +kernel
theorem d_SE_enterBlock_0 : decode b_SE_enterBlock 0 = .ok (.aload_n 0, 1) := by decide +kernel
theorem d_SE_enterBlock_1 : decode b_SE_enterBlock 1 = .ok (.getfield 36, 3) := by decide +kernel
theorem d_SE_enterBlock_4 : decode b_SE_enterBlock 4 = .ok (.iconst 1, 1) := by decide +kernel
theorem d_SE_enterBlock_5 : decode b_SE_enterBlock 5 = .ok (.isub, 1) := by decide +kernel
theorem d_SE_enterBlock_6 : decode b_SE_enterBlock 6 = .ok (.bipush 10, 2) := by decide +kernel
theorem d_SE_enterBlock_8 : decode b_SE_enterBlock 8 = .ok (.imul, 1) := by decide +kernel
theorem d_SE_enterBlock_9 : decode b_SE_enterBlock 9 = .ok (.aload_n 0, 1) := by decide +kernel
theorem d_SE_enterBlock_10 : decode b_SE_enterBlock 10 = .ok (.getfield 43, 3) := by decide +kernel
theorem d_SE_enterBlock_13 : decode b_SE_enterBlock 13 = .ok (.iadd, 1) := by decide +kernel
theorem d_SE_enterBlock_14 : decode b_SE_enterBlock 14 = .ok (.istore_n 2, 1) := by decide +kernel
theorem d_SE_enterBlock_15 : decode b_SE_enterBlock 15 = .ok (.aload_n 0, 1) := by decide +kernel
theorem d_SE_enterBlock_16 : decode b_SE_enterBlock 16 = .ok (.getfield 16, 3) := by decide +kernel
theorem d_SE_enterBlock_19 : decode b_SE_enterBlock 19 = .ok (.iload_n 2, 1) := by decide +kernel
theorem d_SE_enterBlock_20 : decode b_SE_enterBlock 20 = .ok (.iconst 0, 1) := by decide +kernel
theorem d_SE_enterBlock_21 : decode b_SE_enterBlock 21 = .ok (.aload_n 0, 1) := by decide +kernel
theorem d_SE_enterBlock_22 : decode b_SE_enterBlock 22 = .ok (.getfield 60, 3) := by decide +kernel
theorem d_SE_enterBlock_25 : decode b_SE_enterBlock 25 = .ok (.invokevirtual 123, 3) := by decide +kernel
theorem d_SE_enterBlock_28 : decode b_SE_enterBlock 28 = .ok (.aload_n 0, 1) := by decide +kernel
theorem d_SE_enterBlock_29 : decode b_SE_enterBlock 29 = .ok (.getfield 16, 3) := by decide +kernel
theorem d_SE_enterBlock_32 : decode b_SE_enterBlock 32 = .ok (.iload_n 2, 1) := by decide +kernel
theorem d_SE_enterBlock_33 : decode b_SE_enterBlock 33 = .ok (.iconst 1, 1) := by decide +kernel
theorem d_SE_enterBlock_34 : decode b_SE_enterBlock 34 = .ok (.aload_n 0, 1) := by decide +kernel
theorem d_SE_enterBlock_35 : decode b_SE_enterBlock 35 = .ok (.getfield 57, 3) := by decide +kernel
theorem d_SE_enterBlock_38 : decode b_SE_enterBlock 38 = .ok (.invokevirtual 123, 3) := by decide +kernel
theorem d_SE_enterBlock_41 : decode b_SE_enterBlock 41 = .ok (.aload_n 0, 1) := by decide +kernel
theorem d_SE_enterBlock_42 : decode b_SE_enterBlock 42 = .ok (.dup, 1) := by decide +kernel
theorem d_SE_enterBlock_43 : decode b_SE_enterBlock 43 = .ok (.getfield 43, 3) := by decide +kernel
theorem d_SE_enterBlock_46 : decode b_SE_enterBlock 46 = .ok (.iconst 1, 1) := by decide +kernel
theorem d_SE_enterBlock_47 : decode b_SE_enterBlock 47 = .ok (.iadd, 1) := by decide +kernel
theorem d_SE_enterBlock_48 : decode b_SE_enterBlock 48 = .ok (.putfield 43, 3) := by decide +kernel
theorem d_SE_enterBlock_51 : decode b_SE_enterBlock 51 = .ok (.aload_n 0, 1) := by decide +kernel
theorem d_SE_enterBlock_52 : decode b_SE_enterBlock 52 = .ok (.iload_n 1, 1) := by decide +kernel
theorem d_SE_enterBlock_53 : decode b_SE_enterBlock 53 = .ok (.putfield 60, 3) := by decide +kernel
theorem d_SE_enterBlock_56 : decode b_SE_enterBlock 56 = .ok (.return_, 1) := by decide +kernel
theorem d_SE_control_0 : decode b_SE_control 0 = .ok (.iload_n 1, 1) := by decide +kernel
theorem d_SE_control_1 : decode b_SE_control 1 = .ok (.tableswitch 211 0 16 #[83, 211, 91, 91, 104, 211, 211, 211, 211, 211, 211, 211, 138, 146, 174, 196, 203], 83) := by decide +kernel
theorem d_SE_control_84 : decode b_SE_control 84 = .ok (.aload_n 0, 1) := by decide +kernel
theorem d_SE_control_85 : decode b_SE_control 85 = .ok (.iconst 2, 1) := by decide +kernel
theorem d_SE_control_86 : decode b_SE_control 86 = .ok (.putfield 89, 3) := by decide +kernel
theorem d_SE_control_89 : decode b_SE_control 89 = .ok (.goto 133, 3) := by decide +kernel
theorem d_SE_control_92 : decode b_SE_control 92 = .ok (.aload_n 0, 1) := by decide +kernel
theorem d_SE_control_93 : decode b_SE_control 93 = .ok (.aload_n 0, 1) := by decide +kernel
theorem d_SE_control_94 : decode b_SE_control 94 = .ok (.getfield 60, 3) := by decide +kernel
theorem d_SE_control_97 : decode b_SE_control 97 = .ok (.iconst 1, 1) := by decide +kernel
theorem d_SE_control_98 : decode b_SE_control 98 = .ok (.iadd, 1) := by decide +kernel
theorem d_SE_control_99 : decode b_SE_control 99 = .ok (.invokevirtual 99, 3) := by decide +kernel
theorem d_SE_control_102 : decode b_SE_control 102 = .ok (.goto 120, 3) := by decide +kernel
theorem d_SE_control_105 : decode b_SE_control 105 = .ok (.aload_n 0, 1) := by decide +kernel
theorem d_SE_control_106 : decode b_SE_control 106 = .ok (.aload_n 0, 1) := by decide +kernel
theorem d_SE_control_107 : decode b_SE_control 107 = .ok (.invokevirtual 102, 3) := by decide +kernel
theorem d_SE_control_110 : decode b_SE_control 110 = .ok (.ifCond .eq 12, 3) := by decide +kernel
theorem d_SE_control_113 : decode b_SE_control 113 = .ok (.aload_n 0, 1) := by decide +kernel
theorem d_SE_control_114 : decode b_SE_control 114 = .ok (.getfield 60, 3) := by decide +kernel
theorem d_SE_control_117 : decode b_SE_control 117 = .ok (.iconst 1, 1) := by decide +kernel
theorem d_SE_control_118 : decode b_SE_control 118 = .ok (.iadd, 1) := by decide +kernel
theorem d_SE_control_119 : decode b_SE_control 119 = .ok (.goto 14, 3) := by decide +kernel
theorem d_SE_control_122 : decode b_SE_control 122 = .ok (.aload_n 0, 1) := by decide +kernel
theorem d_SE_control_123 : decode b_SE_control 123 = .ok (.getfield 32, 3) := by decide +kernel
theorem d_SE_control_126 : decode b_SE_control 126 = .ok (.aload_n 0, 1) := by decide +kernel
theorem d_SE_control_127 : decode b_SE_control 127 = .ok (.getfield 60, 3) := by decide +kernel
theorem d_SE_control_130 : decode b_SE_control 130 = .ok (.invokevirtual 106, 3) := by decide +kernel
theorem d_SE_control_133 : decode b_SE_control 133 = .ok (.invokevirtual 99, 3) := by decide +kernel
theorem d_SE_control_136 : decode b_SE_control 136 = .ok (.goto 86, 3) := by decide +kernel
theorem d_SE_control_139 : decode b_SE_control 139 = .ok (.aload_n 0, 1) := by decide +kernel
theorem d_SE_control_140 : decode b_SE_control 140 = .ok (.iload_n 2, 1) := by decide +kernel
theorem d_SE_control_141 : decode b_SE_control 141 = .ok (.invokevirtual 109, 3) := by decide +kernel
theorem d_SE_control_144 : decode b_SE_control 144 = .ok (.goto 78, 3) := by decide +kernel
theorem d_SE_control_147 : decode b_SE_control 147 = .ok (.aload_n 0, 1) := by decide +kernel
theorem d_SE_control_148 : decode b_SE_control 148 = .ok (.invokevirtual 102, 3) := by decide +kernel
theorem d_SE_control_151 : decode b_SE_control 151 = .ok (.ifCond .eq 11, 3) := by decide +kernel
theorem d_SE_control_154 : decode b_SE_control 154 = .ok (.aload_n 0, 1) := by decide +kernel
theorem d_SE_control_155 : decode b_SE_control 155 = .ok (.iload_n 2, 1) := by decide +kernel
theorem d_SE_control_156 : decode b_SE_control 156 = .ok (.invokevirtual 109, 3) := by decide +kernel
theorem d_SE_control_159 : decode b_SE_control 159 = .ok (.goto 63, 3) := by decide +kernel
theorem d_SE_control_162 : decode b_SE_control 162 = .ok (.aload_n 0, 1) := by decide +kernel
theorem d_SE_control_163 : decode b_SE_control 163 = .ok (.dup, 1) := by decide +kernel
theorem d_SE_control_164 : decode b_SE_control 164 = .ok (.getfield 60, 3) := by decide +kernel
theorem d_SE_control_167 : decode b_SE_control 167 = .ok (.iconst 1, 1) := by decide +kernel
theorem d_SE_control_168 : decode b_SE_control 168 = .ok (.iadd, 1) := by decide +kernel
theorem d_SE_control_169 : decode b_SE_control 169 = .ok (.putfield 60, 3) := by decide +kernel
theorem d_SE_control_172 : decode b_SE_control 172 = .ok (.goto 50, 3) := by decide +kernel
theorem d_SE_control_175 : decode b_SE_control 175 = .ok (.aload_n 0, 1) := by decide +kernel
theorem d_SE_control_176 : decode b_SE_control 176 = .ok (.aload_n 0, 1) := by decide +kernel
theorem d_SE_control_177 : decode b_SE_control 177 = .ok (.getfield 32, 3) := by decide +kernel
theorem d_SE_control_180 : decode b_SE_control 180 = .ok (.aload_n 0, 1) := by decide +kernel
theorem d_SE_control_181 : decode b_SE_control 181 = .ok (.getfield 60, 3) := by decide +kernel
theorem d_SE_control_184 : decode b_SE_control 184 = .ok (.aload_n 0, 1) := by decide +kernel
theorem d_SE_control_185 : decode b_SE_control 185 = .ok (.invokevirtual 102, 3) := by decide +kernel
theorem d_SE_control_188 : decode b_SE_control 188 = .ok (.invokevirtual 112, 3) := by decide +kernel
theorem d_SE_control_191 : decode b_SE_control 191 = .ok (.invokevirtual 109, 3) := by decide +kernel
theorem d_SE_control_194 : decode b_SE_control 194 = .ok (.goto 28, 3) := by decide +kernel
theorem d_SE_control_197 : decode b_SE_control 197 = .ok (.aload_n 0, 1) := by decide +kernel
theorem d_SE_control_198 : decode b_SE_control 198 = .ok (.invokevirtual 68, 3) := by decide +kernel
theorem d_SE_control_201 : decode b_SE_control 201 = .ok (.goto 21, 3) := by decide +kernel
theorem d_SE_control_204 : decode b_SE_control 204 = .ok (.aload_n 0, 1) := by decide +kernel
theorem d_SE_control_205 : decode b_SE_control 205 = .ok (.iload_n 2, 1) := by decide +kernel
theorem d_SE_control_206 : decode b_SE_control 206 = .ok (.invokevirtual 115, 3) := by decide +kernel
theorem d_SE_control_209 : decode b_SE_control 209 = .ok (.goto 13, 3) := by decide +kernel
theorem d_SE_control_212 : decode b_SE_control 212 = .ok (.aload_n 0, 1) := by decide +kernel
theorem d_SE_control_213 : decode b_SE_control 213 = .ok (.dup, 1) := by decide +kernel
theorem d_SE_control_214 : decode b_SE_control 214 = .ok (.getfield 60, 3) := by decide +kernel
theorem d_SE_control_217 : decode b_SE_control 217 = .ok (.iconst 1, 1) := by decide +kernel
theorem d_SE_control_218 : decode b_SE_control 218 = .ok (.iadd, 1) := by decide +kernel
theorem d_SE_control_219 : decode b_SE_control 219 = .ok (.putfield 60, 3) := by decide +kernel
theorem d_SE_control_222 : decode b_SE_control 222 = .ok (.return_, 1) := by decide +kernel
theorem d_SE_step_0 : decode b_SE_step 0 = .ok (.aload_n 0, 1) := by decide +kernel
theorem d_SE_step_1 : decode b_SE_step 1 = .ok (.getfield 32, 3) := by decide +kernel
theorem d_SE_step_4 : decode b_SE_step 4 = .ok (.getfield 63, 3) := by decide +kernel
theorem d_SE_step_7 : decode b_SE_step 7 = .ok (.aload_n 0, 1) := by decide +kernel
theorem d_SE_step_8 : decode b_SE_step 8 = .ok (.getfield 60, 3) := by decide +kernel
theorem d_SE_step_11 : decode b_SE_step 11 = .ok (.iconst 0, 1) := by decide +kernel
theorem d_SE_step_12 : decode b_SE_step 12 = .ok (.invokevirtual 53, 3) := by decide +kernel
theorem d_SE_step_15 : decode b_SE_step 15 = .ok (.istore_n 1, 1) := by decide +kernel
theorem d_SE_step_16 : decode b_SE_step 16 = .ok (.aload_n 0, 1) := by decide +kernel
theorem d_SE_step_17 : decode b_SE_step 17 = .ok (.getfield 32, 3) := by decide +kernel
theorem d_SE_step_20 : decode b_SE_step 20 = .ok (.getfield 63, 3) := by decide +kernel
theorem d_SE_step_23 : decode b_SE_step 23 = .ok (.aload_n 0, 1) := by decide +kernel
theorem d_SE_step_24 : decode b_SE_step 24 = .ok (.getfield 60, 3) := by decide +kernel
theorem d_SE_step_27 : decode b_SE_step 27 = .ok (.iconst 1, 1) := by decide +kernel
theorem d_SE_step_28 : decode b_SE_step 28 = .ok (.invokevirtual 53, 3) := by decide +kernel
theorem d_SE_step_31 : decode b_SE_step 31 = .ok (.istore_n 2, 1) := by decide +kernel
theorem d_SE_step_32 : decode b_SE_step 32 = .ok (.iload_n 1, 1) := by decide +kernel
theorem d_SE_step_33 : decode b_SE_step 33 = .ok (.invokestatic 72, 3) := by decide +kernel
theorem d_SE_step_36 : decode b_SE_step 36 = .ok (.ifCond .eq 10, 3) := by decide +kernel
theorem d_SE_step_39 : decode b_SE_step 39 = .ok (.aload_n 0, 1) := by decide +kernel
theorem d_SE_step_40 : decode b_SE_step 40 = .ok (.iload_n 1, 1) := by decide +kernel
theorem d_SE_step_41 : decode b_SE_step 41 = .ok (.iload_n 2, 1) := by decide +kernel
theorem d_SE_step_42 : decode b_SE_step 42 = .ok (.invokevirtual 76, 3) := by decide +kernel
theorem d_SE_step_45 : decode b_SE_step 45 = .ok (.return_, 1) := by decide +kernel
theorem d_SE_step_46 : decode b_SE_step 46 = .ok (.aload_n 0, 1) := by decide +kernel
theorem d_SE_step_47 : decode b_SE_step 47 = .ok (.getfield 79, 3) := by decide +kernel
theorem d_SE_step_50 : decode b_SE_step 50 = .ok (.iload_n 1, 1) := by decide +kernel
theorem d_SE_step_51 : decode b_SE_step 51 = .ok (.iload_n 2, 1) := by decide +kernel
theorem d_SE_step_52 : decode b_SE_step 52 = .ok (.aload_n 0, 1) := by decide +kernel
theorem d_SE_step_53 : decode b_SE_step 53 = .ok (.getfield 46, 3) := by decide +kernel
theorem d_SE_step_56 : decode b_SE_step 56 = .ok (.aload_n 0, 1) := by decide +kernel
theorem d_SE_step_57 : decode b_SE_step 57 = .ok (.getfield 57, 3) := by decide +kernel
theorem d_SE_step_60 : decode b_SE_step 60 = .ok (.invokevirtual 83, 3) := by decide +kernel
theorem d_SE_step_63 : decode b_SE_step 63 = .ok (.istore_n 3, 1) := by decide +kernel
theorem d_SE_step_64 : decode b_SE_step 64 = .ok (.iload_n 3, 1) := by decide +kernel
theorem d_SE_step_65 : decode b_SE_step 65 = .ok (.ifCond .eq 9, 3) := by decide +kernel
theorem d_SE_step_68 : decode b_SE_step 68 = .ok (.aload_n 0, 1) := by decide +kernel
theorem d_SE_step_69 : decode b_SE_step 69 = .ok (.iload_n 3, 1) := by decide +kernel
theorem d_SE_step_70 : decode b_SE_step 70 = .ok (.putfield 89, 3) := by decide +kernel
theorem d_SE_step_73 : decode b_SE_step 73 = .ok (.return_, 1) := by decide +kernel
theorem d_SE_step_74 : decode b_SE_step 74 = .ok (.aload_n 0, 1) := by decide +kernel
theorem d_SE_step_75 : decode b_SE_step 75 = .ok (.dup, 1) := by decide +kernel
theorem d_SE_step_76 : decode b_SE_step 76 = .ok (.getfield 57, 3) := by decide +kernel
theorem d_SE_step_79 : decode b_SE_step 79 = .ok (.iload_n 1, 1) := by decide +kernel
theorem d_SE_step_80 : decode b_SE_step 80 = .ok (.invokestatic 92, 3) := by decide +kernel
theorem d_SE_step_83 : decode b_SE_step 83 = .ok (.iload_n 1, 1) := by decide +kernel
theorem d_SE_step_84 : decode b_SE_step 84 = .ok (.invokestatic 96, 3) := by decide +kernel
theorem d_SE_step_87 : decode b_SE_step 87 = .ok (.isub, 1) := by decide +kernel
theorem d_SE_step_88 : decode b_SE_step 88 = .ok (.iadd, 1) := by decide +kernel
theorem d_SE_step_89 : decode b_SE_step 89 = .ok (.putfield 57, 3) := by decide +kernel
theorem d_SE_step_92 : decode b_SE_step 92 = .ok (.aload_n 0, 1) := by decide +kernel
theorem d_SE_step_93 : decode b_SE_step 93 = .ok (.dup, 1) := by decide +kernel
theorem d_SE_step_94 : decode b_SE_step 94 = .ok (.getfield 60, 3) := by decide +kernel
theorem d_SE_step_97 : decode b_SE_step 97 = .ok (.iconst 1, 1) := by decide +kernel
theorem d_SE_step_98 : decode b_SE_step 98 = .ok (.iadd, 1) := by decide +kernel
theorem d_SE_step_99 : decode b_SE_step 99 = .ok (.putfield 60, 3) := by decide +kernel
theorem d_SE_step_102 : decode b_SE_step 102 = .ok (.return_, 1) := by decide +kernel
theorem d_Eng_close_0 : decode b_Eng_close 0 = .ok (.aload_n 0, 1) := by decide +kernel
theorem d_Eng_close_1 : decode b_Eng_close 1 = .ok (.iload_n 2, 1) := by decide +kernel
theorem d_Eng_close_2 : decode b_Eng_close 2 = .ok (.ifCond .le 19, 3) := by decide +kernel
theorem d_Eng_close_5 : decode b_Eng_close 5 = .ok (.aload_n 0, 1) := by decide +kernel
theorem d_Eng_close_6 : decode b_Eng_close 6 = .ok (.getfield 23, 3) := by decide +kernel
theorem d_Eng_close_9 : decode b_Eng_close 9 = .ok (.getfield 64, 3) := by decide +kernel
theorem d_Eng_close_12 : decode b_Eng_close 12 = .ok (.iload_n 1, 1) := by decide +kernel
theorem d_Eng_close_13 : decode b_Eng_close 13 = .ok (.iconst 1, 1) := by decide +kernel
theorem d_Eng_close_14 : decode b_Eng_close 14 = .ok (.isub, 1) := by decide +kernel
theorem d_Eng_close_15 : decode b_Eng_close 15 = .ok (.invokevirtual 69, 3) := by decide +kernel
theorem d_Eng_close_18 : decode b_Eng_close 18 = .ok (.goto 4, 3) := by decide +kernel
theorem d_Eng_close_21 : decode b_Eng_close 21 = .ok (.iconst 0, 1) := by decide +kernel
theorem d_Eng_close_22 : decode b_Eng_close 22 = .ok (.putfield 31, 3) := by decide +kernel
theorem d_Eng_close_25 : decode b_Eng_close 25 = .ok (.aload_n 0, 1) := by decide +kernel
theorem d_Eng_close_26 : decode b_Eng_close 26 = .ok (.dup, 1) := by decide +kernel
theorem d_Eng_close_27 : decode b_Eng_close 27 = .ok (.getfield 34, 3) := by decide +kernel
theorem d_Eng_close_30 : decode b_Eng_close 30 = .ok (.iconst 1, 1) := by decide +kernel
theorem d_Eng_close_31 : decode b_Eng_close 31 = .ok (.isub, 1) := by decide +kernel
theorem d_Eng_close_32 : decode b_Eng_close 32 = .ok (.putfield 34, 3) := by decide +kernel
theorem d_Eng_close_35 : decode b_Eng_close 35 = .ok (.aload_n 0, 1) := by decide +kernel
theorem d_Eng_close_36 : decode b_Eng_close 36 = .ok (.getfield 34, 3) := by decide +kernel
theorem d_Eng_close_39 : decode b_Eng_close 39 = .ok (.ifCond .gt 10, 3) := by decide +kernel
theorem d_Eng_close_42 : decode b_Eng_close 42 = .ok (.aload_n 0, 1) := by decide +kernel
theorem d_Eng_close_43 : decode b_Eng_close 43 = .ok (.iconst 1, 1) := by decide +kernel
theorem d_Eng_close_44 : decode b_Eng_close 44 = .ok (.putfield 27, 3) := by decide +kernel
theorem d_Eng_close_47 : decode b_Eng_close 47 = .ok (.iconst 0, 1) := by decide +kernel
theorem d_Eng_close_48 : decode b_Eng_close 48 = .ok (.ireturn, 1) := by decide +kernel
theorem d_Eng_close_49 : decode b_Eng_close 49 = .ok (.aload_n 0, 1) := by decide +kernel
theorem d_Eng_close_50 : decode b_Eng_close 50 = .ok (.aload_n 0, 1) := by decide +kernel
theorem d_Eng_close_51 : decode b_Eng_close 51 = .ok (.getfield 34, 3) := by decide +kernel
theorem d_Eng_close_54 : decode b_Eng_close 54 = .ok (.iconst 1, 1) := by decide +kernel
theorem d_Eng_close_55 : decode b_Eng_close 55 = .ok (.isub, 1) := by decide +kernel
theorem d_Eng_close_56 : decode b_Eng_close 56 = .ok (.bipush 28, 2) := by decide +kernel
theorem d_Eng_close_58 : decode b_Eng_close 58 = .ok (.imul, 1) := by decide +kernel
theorem d_Eng_close_59 : decode b_Eng_close 59 = .ok (.putfield 61, 3) := by decide +kernel
theorem d_Eng_close_62 : decode b_Eng_close 62 = .ok (.aload_n 0, 1) := by decide +kernel
theorem d_Eng_close_63 : decode b_Eng_close 63 = .ok (.aload_n 0, 1) := by decide +kernel
theorem d_Eng_close_64 : decode b_Eng_close 64 = .ok (.getfield 14, 3) := by decide +kernel
theorem d_Eng_close_67 : decode b_Eng_close 67 = .ok (.aload_n 0, 1) := by decide +kernel
theorem d_Eng_close_68 : decode b_Eng_close 68 = .ok (.getfield 34, 3) := by decide +kernel
theorem d_Eng_close_71 : decode b_Eng_close 71 = .ok (.invokevirtual 69, 3) := by decide +kernel
theorem d_Eng_close_74 : decode b_Eng_close 74 = .ok (.putfield 77, 3) := by decide +kernel
theorem d_Eng_close_77 : decode b_Eng_close 77 = .ok (.aload_n 0, 1) := by decide +kernel
theorem d_Eng_close_78 : decode b_Eng_close 78 = .ok (.getfield 20, 3) := by decide +kernel
theorem d_Eng_close_81 : decode b_Eng_close 81 = .ok (.aload_n 0, 1) := by decide +kernel
theorem d_Eng_close_82 : decode b_Eng_close 82 = .ok (.getfield 34, 3) := by decide +kernel
theorem d_Eng_close_85 : decode b_Eng_close 85 = .ok (.invokevirtual 69, 3) := by decide +kernel
theorem d_Eng_close_88 : decode b_Eng_close 88 = .ok (.istore_n 3, 1) := by decide +kernel
theorem d_Eng_close_89 : decode b_Eng_close 89 = .ok (.iload_n 2, 1) := by decide +kernel
theorem d_Eng_close_90 : decode b_Eng_close 90 = .ok (.ifCond .le 18, 3) := by decide +kernel
theorem d_Eng_close_93 : decode b_Eng_close 93 = .ok (.aload_n 0, 1) := by decide +kernel
theorem d_Eng_close_94 : decode b_Eng_close 94 = .ok (.getfield 23, 3) := by decide +kernel
theorem d_Eng_close_97 : decode b_Eng_close 97 = .ok (.getfield 64, 3) := by decide +kernel
theorem d_Eng_close_100 : decode b_Eng_close 100 = .ok (.iload_n 3, 1) := by decide +kernel
theorem d_Eng_close_101 : decode b_Eng_close 101 = .ok (.aload_n 0, 1) := by decide +kernel
theorem d_Eng_close_102 : decode b_Eng_close 102 = .ok (.getfield 31, 3) := by decide +kernel
theorem d_Eng_close_105 : decode b_Eng_close 105 = .ok (.invokevirtual 73, 3) := by decide +kernel
theorem d_Eng_close_108 : decode b_Eng_close 108 = .ok (.iload_n 3, 1) := by decide +kernel
theorem d_Eng_close_109 : decode b_Eng_close 109 = .ok (.iload_n 2, 1) := by decide +kernel
theorem d_Eng_close_110 : decode b_Eng_close 110 = .ok (.iadd, 1) := by decide +kernel
theorem d_Eng_close_111 : decode b_Eng_close 111 = .ok (.ireturn, 1) := by decide +kernel
theorem d_Eng_open_0 : decode b_Eng_open 0 = .ok (.aload_n 0, 1) := by decide +kernel
theorem d_Eng_open_1 : decode b_Eng_open 1 = .ok (.aload_n 0, 1) := by decide +kernel
theorem d_Eng_open_2 : decode b_Eng_open 2 = .ok (.getfield 34, 3) := by decide +kernel
theorem d_Eng_open_5 : decode b_Eng_open 5 = .ok (.bipush 28, 2) := by decide +kernel
theorem d_Eng_open_7 : decode b_Eng_open 7 = .ok (.imul, 1) := by decide +kernel
theorem d_Eng_open_8 : decode b_Eng_open 8 = .ok (.putfield 61, 3) := by decide +kernel
theorem d_Eng_open_11 : decode b_Eng_open 11 = .ok (.aload_n 0, 1) := by decide +kernel
theorem d_Eng_open_12 : decode b_Eng_open 12 = .ok (.dup, 1) := by decide +kernel
theorem d_Eng_open_13 : decode b_Eng_open 13 = .ok (.getfield 34, 3) := by decide +kernel
theorem d_Eng_open_16 : decode b_Eng_open 16 = .ok (.iconst 1, 1) := by decide +kernel
theorem d_Eng_open_17 : decode b_Eng_open 17 = .ok (.iadd, 1) := by decide +kernel
theorem d_Eng_open_18 : decode b_Eng_open 18 = .ok (.putfield 34, 3) := by decide +kernel
theorem d_Eng_open_21 : decode b_Eng_open 21 = .ok (.iconst 0, 1) := by decide +kernel
theorem d_Eng_open_22 : decode b_Eng_open 22 = .ok (.istore 4, 2) := by decide +kernel
theorem d_Eng_open_24 : decode b_Eng_open 24 = .ok (.iload 4, 2) := by decide +kernel
theorem d_Eng_open_26 : decode b_Eng_open 26 = .ok (.bipush 28, 2) := by decide +kernel
theorem d_Eng_open_28 : decode b_Eng_open 28 = .ok (.if_icmp .ge 44, 3) := by decide +kernel
theorem d_Eng_open_31 : decode b_Eng_open 31 = .ok (.aload_n 0, 1) := by decide +kernel
theorem d_Eng_open_32 : decode b_Eng_open 32 = .ok (.getfield 23, 3) := by decide +kernel
theorem d_Eng_open_35 : decode b_Eng_open 35 = .ok (.getfield 64, 3) := by decide +kernel
theorem d_Eng_open_38 : decode b_Eng_open 38 = .ok (.aload_n 0, 1) := by decide +kernel
theorem d_Eng_open_39 : decode b_Eng_open 39 = .ok (.getfield 61, 3) := by decide +kernel
theorem d_Eng_open_42 : decode b_Eng_open 42 = .ok (.iload 4, 2) := by decide +kernel
theorem d_Eng_open_44 : decode b_Eng_open 44 = .ok (.iadd, 1) := by decide +kernel
theorem d_Eng_open_45 : decode b_Eng_open 45 = .ok (.iload 4, 2) := by decide +kernel
theorem d_Eng_open_47 : decode b_Eng_open 47 = .ok (.iload_n 3, 1) := by decide +kernel
theorem d_Eng_open_48 : decode b_Eng_open 48 = .ok (.if_icmp .ge 14, 3) := by decide +kernel
theorem d_Eng_open_51 : decode b_Eng_open 51 = .ok (.aload_n 1, 1) := by decide +kernel
theorem d_Eng_open_52 : decode b_Eng_open 52 = .ok (.iload_n 2, 1) := by decide +kernel
theorem d_Eng_open_53 : decode b_Eng_open 53 = .ok (.iload 4, 2) := by decide +kernel
theorem d_Eng_open_55 : decode b_Eng_open 55 = .ok (.iadd, 1) := by decide +kernel
theorem d_Eng_open_56 : decode b_Eng_open 56 = .ok (.invokevirtual 69, 3) := by decide +kernel
theorem d_Eng_open_59 : decode b_Eng_open 59 = .ok (.goto 4, 3) := by decide +kernel
theorem d_Eng_open_62 : decode b_Eng_open 62 = .ok (.iconst 0, 1) := by decide +kernel
theorem d_Eng_open_63 : decode b_Eng_open 63 = .ok (.invokevirtual 73, 3) := by decide +kernel
theorem d_Eng_open_66 : decode b_Eng_open 66 = .ok (.iinc 4 1, 3) := by decide +kernel
theorem d_Eng_open_69 : decode b_Eng_open 69 = .ok (.goto (-45), 3) := by decide +kernel
theorem d_Eng_open_72 : decode b_Eng_open 72 = .ok (.return_, 1) := by decide +kernel
theorem d_Eng_openFrom_0 : decode b_Eng_openFrom 0 = .ok (.aload_n 0, 1) := by decide +kernel
theorem d_Eng_openFrom_1 : decode b_Eng_openFrom 1 = .ok (.getfield 34, 3) := by decide +kernel
theorem d_Eng_openFrom_4 : decode b_Eng_openFrom 4 = .ok (.bipush 8, 2) := by decide +kernel
theorem d_Eng_openFrom_6 : decode b_Eng_openFrom 6 = .ok (.if_icmp .lt 11, 3) := by decide +kernel
theorem d_Eng_openFrom_9 : decode b_Eng_openFrom 9 = .ok (.aload_n 0, 1) := by decide +kernel
theorem d_Eng_openFrom_10 : decode b_Eng_openFrom 10 = .ok (.bipush 6, 2) := by decide +kernel
theorem d_Eng_openFrom_12 : decode b_Eng_openFrom 12 = .ok (.putfield 27, 3) := by decide +kernel
theorem d_Eng_openFrom_15 : decode b_Eng_openFrom 15 = .ok (.iconst 0, 1) := by decide +kernel
theorem d_Eng_openFrom_16 : decode b_Eng_openFrom 16 = .ok (.ireturn, 1) := by decide +kernel
theorem d_Eng_openFrom_17 : decode b_Eng_openFrom 17 = .ok (.aload_n 0, 1) := by decide +kernel
theorem d_Eng_openFrom_18 : decode b_Eng_openFrom 18 = .ok (.getfield 14, 3) := by decide +kernel
theorem d_Eng_openFrom_21 : decode b_Eng_openFrom 21 = .ok (.aload_n 0, 1) := by decide +kernel
theorem d_Eng_openFrom_22 : decode b_Eng_openFrom 22 = .ok (.getfield 34, 3) := by decide +kernel
theorem d_Eng_openFrom_25 : decode b_Eng_openFrom 25 = .ok (.aload_n 0, 1) := by decide +kernel
theorem d_Eng_openFrom_26 : decode b_Eng_openFrom 26 = .ok (.getfield 77, 3) := by decide +kernel
theorem d_Eng_openFrom_29 : decode b_Eng_openFrom 29 = .ok (.iconst 1, 1) := by decide +kernel
theorem d_Eng_openFrom_30 : decode b_Eng_openFrom 30 = .ok (.iadd, 1) := by decide +kernel
theorem d_Eng_openFrom_31 : decode b_Eng_openFrom 31 = .ok (.invokevirtual 73, 3) := by decide +kernel
theorem d_Eng_openFrom_34 : decode b_Eng_openFrom 34 = .ok (.aload_n 0, 1) := by decide +kernel
theorem d_Eng_openFrom_35 : decode b_Eng_openFrom 35 = .ok (.getfield 20, 3) := by decide +kernel
theorem d_Eng_openFrom_38 : decode b_Eng_openFrom 38 = .ok (.aload_n 0, 1) := by decide +kernel
theorem d_Eng_openFrom_39 : decode b_Eng_openFrom 39 = .ok (.getfield 34, 3) := by decide +kernel
theorem d_Eng_openFrom_42 : decode b_Eng_openFrom 42 = .ok (.iload_n 1, 1) := by decide +kernel
theorem d_Eng_openFrom_43 : decode b_Eng_openFrom 43 = .ok (.iload_n 2, 1) := by decide +kernel
theorem d_Eng_openFrom_44 : decode b_Eng_openFrom 44 = .ok (.isub, 1) := by decide +kernel
theorem d_Eng_openFrom_45 : decode b_Eng_openFrom 45 = .ok (.invokevirtual 73, 3) := by decide +kernel
theorem d_Eng_openFrom_48 : decode b_Eng_openFrom 48 = .ok (.aload_n 0, 1) := by decide +kernel
theorem d_Eng_openFrom_49 : decode b_Eng_openFrom 49 = .ok (.aload_n 0, 1) := by decide +kernel
theorem d_Eng_openFrom_50 : decode b_Eng_openFrom 50 = .ok (.getfield 23, 3) := by decide +kernel
theorem d_Eng_openFrom_53 : decode b_Eng_openFrom 53 = .ok (.getfield 64, 3) := by decide +kernel
theorem d_Eng_openFrom_56 : decode b_Eng_openFrom 56 = .ok (.iload_n 1, 1) := by decide +kernel
theorem d_Eng_openFrom_57 : decode b_Eng_openFrom 57 = .ok (.iload_n 2, 1) := by decide +kernel
theorem d_Eng_openFrom_58 : decode b_Eng_openFrom 58 = .ok (.isub, 1) := by decide +kernel
theorem d_Eng_openFrom_59 : decode b_Eng_openFrom 59 = .ok (.iload_n 2, 1) := by decide +kernel
theorem d_Eng_openFrom_60 : decode b_Eng_openFrom 60 = .ok (.invokevirtual 37, 3) := by decide +kernel
theorem d_Eng_openFrom_63 : decode b_Eng_openFrom 63 = .ok (.iconst 1, 1) := by decide +kernel
theorem d_Eng_openFrom_64 : decode b_Eng_openFrom 64 = .ok (.ireturn, 1) := by decide +kernel
