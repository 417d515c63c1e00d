theorem d_Row_get_0 : decode b_Row_get 0 = .ok (.iload_n 1, 1) := by decide +kernel
theorem d_Row_get_1 : decode b_Row_get 1 = .ok (.ifCond .lt 21, 3) := by decide +kernel
theorem d_Row_get_4 : decode b_Row_get 4 = .ok (.iload_n 1, 1) := by decide +kernel
theorem d_Row_get_5 : decode b_Row_get 5 = .ok (.aload_n 0, 1) := by decide +kernel
theorem d_Row_get_6 : decode b_Row_get 6 = .ok (.getfield 13, 3) := by decide +kernel
theorem d_Row_get_9 : decode b_Row_get 9 = .ok (.arraylength, 1) := by decide +kernel
theorem d_Row_get_10 : decode b_Row_get 10 = .ok (.if_icmp .ge 12, 3) := by decide +kernel
theorem d_Row_get_13 : decode b_Row_get 13 = .ok (.aload_n 0, 1) := by decide +kernel
theorem d_Row_get_14 : decode b_Row_get 14 = .ok (.getfield 13, 3) := by decide +kernel
theorem d_Row_get_17 : decode b_Row_get 17 = .ok (.iload_n 1, 1) := by decide +kernel
theorem d_Row_get_18 : decode b_Row_get 18 = .ok (.iaload, 1) := by decide +kernel
theorem d_Row_get_19 : decode b_Row_get 19 = .ok (.goto 4, 3) := by decide +kernel
theorem d_Row_get_22 : decode b_Row_get 22 = .ok (.iconst 0, 1) := by decide +kernel
theorem d_Row_get_23 : decode b_Row_get 23 = .ok (.ireturn, 1) := by decide +kernel
theorem d_Row_set_0 : decode b_Row_set 0 = .ok (.iload_n 1, 1) := by decide +kernel
theorem d_Row_set_1 : decode b_Row_set 1 = .ok (.ifCond .lt 19, 3) := by decide +kernel
theorem d_Row_set_4 : decode b_Row_set 4 = .ok (.iload_n 1, 1) := by decide +kernel
theorem d_Row_set_5 : decode b_Row_set 5 = .ok (.aload_n 0, 1) := by decide +kernel
theorem d_Row_set_6 : decode b_Row_set 6 = .ok (.getfield 13, 3) := by decide +kernel
theorem d_Row_set_9 : decode b_Row_set 9 = .ok (.arraylength, 1) := by decide +kernel
theorem d_Row_set_10 : decode b_Row_set 10 = .ok (.if_icmp .ge 10, 3) := by decide +kernel
theorem d_Row_set_13 : decode b_Row_set 13 = .ok (.aload_n 0, 1) := by decide +kernel
theorem d_Row_set_14 : decode b_Row_set 14 = .ok (.getfield 13, 3) := by decide +kernel
theorem d_Row_set_17 : decode b_Row_set 17 = .ok (.iload_n 1, 1) := by decide +kernel
theorem d_Row_set_18 : decode b_Row_set 18 = .ok (.iload_n 2, 1) := by decide +kernel
theorem d_Row_set_19 : decode b_Row_set 19 = .ok (.iastore, 1) := by decide +kernel
theorem d_Row_set_20 : decode b_Row_set 20 = .ok (.return_, 1) := by decide +kernel
theorem d_Row_clear_0 : decode b_Row_clear 0 = .ok (.aload_n 0, 1) := by decide +kernel
theorem d_Row_clear_1 : decode b_Row_clear 1 = .ok (.getfield 13, 3) := by decide +kernel
theorem d_Row_clear_4 : decode b_Row_clear 4 = .ok (.iconst 0, 1) := by decide +kernel
theorem d_Row_clear_5 : decode b_Row_clear 5 = .ok (.invokestatic 19, 3) := by decide +kernel
theorem d_Row_clear_8 : decode b_Row_clear 8 = .ok (.return_, 1) := by decide +kernel
theorem d_Table_count_0 : decode b_Table_count 0 = .ok (.aload_n 0, 1) := by decide +kernel
theorem d_Table_count_1 : decode b_Table_count 1 = .ok (.getfield 26, 3) := by decide +kernel
theorem d_Table_count_4 : decode b_Table_count 4 = .ok (.ireturn, 1) := by decide +kernel
theorem d_Table_has_0 : decode b_Table_has 0 = .ok (.iload_n 1, 1) := by decide +kernel
theorem d_Table_has_1 : decode b_Table_has 1 = .ok (.ifCond .lt 15, 3) := by decide +kernel
theorem d_Table_has_4 : decode b_Table_has 4 = .ok (.iload_n 1, 1) := by decide +kernel
theorem d_Table_has_5 : decode b_Table_has 5 = .ok (.aload_n 0, 1) := by decide +kernel
theorem d_Table_has_6 : decode b_Table_has 6 = .ok (.getfield 26, 3) := by decide +kernel
theorem d_Table_has_9 : decode b_Table_has 9 = .ok (.if_icmp .ge 7, 3) := by decide +kernel
theorem d_Table_has_12 : decode b_Table_has 12 = .ok (.iconst 1, 1) := by decide +kernel
theorem d_Table_has_13 : decode b_Table_has 13 = .ok (.goto 4, 3) := by decide +kernel
theorem d_Table_has_16 : decode b_Table_has 16 = .ok (.iconst 0, 1) := by decide +kernel
theorem d_Table_has_17 : decode b_Table_has 17 = .ok (.ireturn, 1) := by decide +kernel
theorem d_Table_add_0 : decode b_Table_add 0 = .ok (.aload_n 0, 1) := by decide +kernel
theorem d_Table_add_1 : decode b_Table_add 1 = .ok (.dup, 1) := by decide +kernel
theorem d_Table_add_2 : decode b_Table_add 2 = .ok (.getfield 26, 3) := by decide +kernel
theorem d_Table_add_5 : decode b_Table_add 5 = .ok (.iconst 1, 1) := by decide +kernel
theorem d_Table_add_6 : decode b_Table_add 6 = .ok (.iadd, 1) := by decide +kernel
theorem d_Table_add_7 : decode b_Table_add 7 = .ok (.putfield 26, 3) := by decide +kernel
theorem d_Table_add_10 : decode b_Table_add 10 = .ok (.aload_n 0, 1) := by decide +kernel
theorem d_Table_add_11 : decode b_Table_add 11 = .ok (.getfield 26, 3) := by decide +kernel
theorem d_Table_add_14 : decode b_Table_add 14 = .ok (.iconst 1, 1) := by decide +kernel
theorem d_Table_add_15 : decode b_Table_add 15 = .ok (.isub, 1) := by decide +kernel
theorem d_Table_add_16 : decode b_Table_add 16 = .ok (.ireturn, 1) := by decide +kernel
theorem d_Table_get_0 : decode b_Table_get 0 = .ok (.iload_n 1, 1) := by decide +kernel
theorem d_Table_get_1 : decode b_Table_get 1 = .ok (.ifCond .lt 23, 3) := by decide +kernel
theorem d_Table_get_4 : decode b_Table_get 4 = .ok (.iload_n 1, 1) := by decide +kernel
theorem d_Table_get_5 : decode b_Table_get 5 = .ok (.aload_n 0, 1) := by decide +kernel
theorem d_Table_get_6 : decode b_Table_get 6 = .ok (.getfield 19, 3) := by decide +kernel
theorem d_Table_get_9 : decode b_Table_get 9 = .ok (.if_icmp .ge 15, 3) := by decide +kernel
theorem d_Table_get_12 : decode b_Table_get 12 = .ok (.iload_n 2, 1) := by decide +kernel
theorem d_Table_get_13 : decode b_Table_get 13 = .ok (.ifCond .lt 11, 3) := by decide +kernel
theorem d_Table_get_16 : decode b_Table_get 16 = .ok (.iload_n 2, 1) := by decide +kernel
theorem d_Table_get_17 : decode b_Table_get 17 = .ok (.aload_n 0, 1) := by decide +kernel
theorem d_Table_get_18 : decode b_Table_get 18 = .ok (.getfield 23, 3) := by decide +kernel
theorem d_Table_get_21 : decode b_Table_get 21 = .ok (.if_icmp .lt 5, 3) := by decide +kernel
theorem d_Table_get_24 : decode b_Table_get 24 = .ok (.iconst 0, 1) := by decide +kernel
theorem d_Table_get_25 : decode b_Table_get 25 = .ok (.ireturn, 1) := by decide +kernel
theorem d_Table_get_26 : decode b_Table_get 26 = .ok (.iload_n 1, 1) := by decide +kernel
theorem d_Table_get_27 : decode b_Table_get 27 = .ok (.aload_n 0, 1) := by decide +kernel
theorem d_Table_get_28 : decode b_Table_get 28 = .ok (.getfield 23, 3) := by decide +kernel
theorem d_Table_get_31 : decode b_Table_get 31 = .ok (.imul, 1) := by decide +kernel
theorem d_Table_get_32 : decode b_Table_get 32 = .ok (.iload_n 2, 1) := by decide +kernel
theorem d_Table_get_33 : decode b_Table_get 33 = .ok (.iadd, 1) := by decide +kernel
theorem d_Table_get_34 : decode b_Table_get 34 = .ok (.istore_n 3, 1) := by decide +kernel
theorem d_Table_get_35 : decode b_Table_get 35 = .ok (.iload_n 3, 1) := by decide +kernel
theorem d_Table_get_36 : decode b_Table_get 36 = .ok (.ifCond .lt 21, 3) := by decide +kernel
theorem d_Table_get_39 : decode b_Table_get 39 = .ok (.iload_n 3, 1) := by decide +kernel
theorem d_Table_get_40 : decode b_Table_get 40 = .ok (.aload_n 0, 1) := by decide +kernel
theorem d_Table_get_41 : decode b_Table_get 41 = .ok (.getfield 13, 3) := by decide +kernel
theorem d_Table_get_44 : decode b_Table_get 44 = .ok (.arraylength, 1) := by decide +kernel
theorem d_Table_get_45 : decode b_Table_get 45 = .ok (.if_icmp .ge 12, 3) := by decide +kernel
theorem d_Table_get_48 : decode b_Table_get 48 = .ok (.aload_n 0, 1) := by decide +kernel
theorem d_Table_get_49 : decode b_Table_get 49 = .ok (.getfield 13, 3) := by decide +kernel
theorem d_Table_get_52 : decode b_Table_get 52 = .ok (.iload_n 3, 1) := by decide +kernel
theorem d_Table_get_53 : decode b_Table_get 53 = .ok (.iaload, 1) := by decide +kernel
theorem d_Table_get_54 : decode b_Table_get 54 = .ok (.goto 4, 3) := by decide +kernel
theorem d_Table_get_57 : decode b_Table_get 57 = .ok (.iconst 0, 1) := by decide +kernel
theorem d_Table_get_58 : decode b_Table_get 58 = .ok (.ireturn, 1) := by decide +kernel
theorem d_Table_set_0 : decode b_Table_set 0 = .ok (.iload_n 1, 1) := by decide +kernel
theorem d_Table_set_1 : decode b_Table_set 1 = .ok (.ifCond .lt 23, 3) := by decide +kernel
theorem d_Table_set_4 : decode b_Table_set 4 = .ok (.iload_n 1, 1) := by decide +kernel
theorem d_Table_set_5 : decode b_Table_set 5 = .ok (.aload_n 0, 1) := by decide +kernel
theorem d_Table_set_6 : decode b_Table_set 6 = .ok (.getfield 19, 3) := by decide +kernel
theorem d_Table_set_9 : decode b_Table_set 9 = .ok (.if_icmp .ge 15, 3) := by decide +kernel
theorem d_Table_set_12 : decode b_Table_set 12 = .ok (.iload_n 2, 1) := by decide +kernel
theorem d_Table_set_13 : decode b_Table_set 13 = .ok (.ifCond .lt 11, 3) := by decide +kernel
theorem d_Table_set_16 : decode b_Table_set 16 = .ok (.iload_n 2, 1) := by decide +kernel
theorem d_Table_set_17 : decode b_Table_set 17 = .ok (.aload_n 0, 1) := by decide +kernel
theorem d_Table_set_18 : decode b_Table_set 18 = .ok (.getfield 23, 3) := by decide +kernel
theorem d_Table_set_21 : decode b_Table_set 21 = .ok (.if_icmp .lt 4, 3) := by decide +kernel
theorem d_Table_set_24 : decode b_Table_set 24 = .ok (.return_, 1) := by decide +kernel
theorem d_Table_set_25 : decode b_Table_set 25 = .ok (.iload_n 1, 1) := by decide +kernel
theorem d_Table_set_26 : decode b_Table_set 26 = .ok (.aload_n 0, 1) := by decide +kernel
theorem d_Table_set_27 : decode b_Table_set 27 = .ok (.getfield 23, 3) := by decide +kernel
theorem d_Table_set_30 : decode b_Table_set 30 = .ok (.imul, 1) := by decide +kernel
theorem d_Table_set_31 : decode b_Table_set 31 = .ok (.iload_n 2, 1) := by decide +kernel
theorem d_Table_set_32 : decode b_Table_set 32 = .ok (.iadd, 1) := by decide +kernel
theorem d_Table_set_33 : decode b_Table_set 33 = .ok (.istore 4, 2) := by decide +kernel
theorem d_Table_set_35 : decode b_Table_set 35 = .ok (.iload 4, 2) := by decide +kernel
theorem d_Table_set_37 : decode b_Table_set 37 = .ok (.ifCond .lt 21, 3) := by decide +kernel
theorem d_Table_set_40 : decode b_Table_set 40 = .ok (.iload 4, 2) := by decide +kernel
theorem d_Table_set_42 : decode b_Table_set 42 = .ok (.aload_n 0, 1) := by decide +kernel
theorem d_Table_set_43 : decode b_Table_set 43 = .ok (.getfield 13, 3) := by decide +kernel
theorem d_Table_set_46 : decode b_Table_set 46 = .ok (.arraylength, 1) := by decide +kernel
theorem d_Table_set_47 : decode b_Table_set 47 = .ok (.if_icmp .ge 11, 3) := by decide +kernel
theorem d_Table_set_50 : decode b_Table_set 50 = .ok (.aload_n 0, 1) := by decide +kernel
theorem d_Table_set_51 : decode b_Table_set 51 = .ok (.getfield 13, 3) := by decide +kernel
theorem d_Table_set_54 : decode b_Table_set 54 = .ok (.iload 4, 2) := by decide +kernel
theorem d_Table_set_56 : decode b_Table_set 56 = .ok (.iload_n 3, 1) := by decide +kernel
theorem d_Table_set_57 : decode b_Table_set 57 = .ok (.iastore, 1) := by decide +kernel
theorem d_Table_set_58 : decode b_Table_set 58 = .ok (.return_, 1) := by decide +kernel
theorem d_Table_clear_0 : decode b_Table_clear 0 = .ok (.aload_n 0, 1) := by decide +kernel
theorem d_Table_clear_1 : decode b_Table_clear 1 = .ok (.getfield 13, 3) := by decide +kernel
theorem d_Table_clear_4 : decode b_Table_clear 4 = .ok (.iconst 0, 1) := by decide +kernel
theorem d_Table_clear_5 : decode b_Table_clear 5 = .ok (.invokestatic 29, 3) := by decide +kernel
theorem d_Table_clear_8 : decode b_Table_clear 8 = .ok (.aload_n 0, 1) := by decide +kernel
theorem d_Table_clear_9 : decode b_Table_clear 9 = .ok (.iconst 0, 1) := by decide +kernel
theorem d_Table_clear_10 : decode b_Table_clear 10 = .ok (.putfield 26, 3) := by decide +kernel
theorem d_Table_clear_13 : decode b_Table_clear 13 = .ok (.return_, 1) := by decide +kernel
theorem d_Arrays_fill_0 : decode b_Arrays_fill 0 = .ok (.iconst 0, 1) := by decide +kernel
theorem d_Arrays_fill_1 : decode b_Arrays_fill 1 = .ok (.istore_n 2, 1) := by decide +kernel
theorem d_Arrays_fill_2 : decode b_Arrays_fill 2 = .ok (.aload_n 0, 1) := by decide +kernel
theorem d_Arrays_fill_3 : decode b_Arrays_fill 3 = .ok (.arraylength, 1) := by decide +kernel
theorem d_Arrays_fill_4 : decode b_Arrays_fill 4 = .ok (.istore_n 3, 1) := by decide +kernel
theorem d_Arrays_fill_5 : decode b_Arrays_fill 5 = .ok (.iload_n 2, 1) := by decide +kernel
theorem d_Arrays_fill_6 : decode b_Arrays_fill 6 = .ok (.iload_n 3, 1) := by decide +kernel
theorem d_Arrays_fill_7 : decode b_Arrays_fill 7 = .ok (.if_icmp .ge 13, 3) := by decide +kernel
theorem d_Arrays_fill_10 : decode b_Arrays_fill 10 = .ok (.aload_n 0, 1) := by decide +kernel
theorem d_Arrays_fill_11 : decode b_Arrays_fill 11 = .ok (.iload_n 2, 1) := by decide +kernel
theorem d_Arrays_fill_12 : decode b_Arrays_fill 12 = .ok (.iload_n 1, 1) := by decide +kernel
theorem d_Arrays_fill_13 : decode b_Arrays_fill 13 = .ok (.iastore, 1) := by decide +kernel
theorem d_Arrays_fill_14 : decode b_Arrays_fill 14 = .ok (.iinc 2 1, 3) := by decide +kernel
theorem d_Arrays_fill_17 : decode b_Arrays_fill 17 = .ok (.goto (-12), 3) := by decide +kernel
theorem d_Arrays_fill_20 : decode b_Arrays_fill 20 = .ok (.return_, 1) := by decide +kernel
theorem d_X_activeEngine_0 : decode b_X_activeEngine 0 = .ok (.aload_n 0, 1) := by decide +kernel
theorem d_X_activeEngine_1 : decode b_X_activeEngine 1 = .ok (.getfield 72, 3) := by decide +kernel
theorem d_X_activeEngine_4 : decode b_X_activeEngine 4 = .ok (.iconst 1, 1) := by decide +kernel
theorem d_X_activeEngine_5 : decode b_X_activeEngine 5 = .ok (.if_icmp .ne 10, 3) := by decide +kernel
theorem d_X_activeEngine_8 : decode b_X_activeEngine 8 = .ok (.aload_n 0, 1) := by decide +kernel
theorem d_X_activeEngine_9 : decode b_X_activeEngine 9 = .ok (.getfield 60, 3) := by decide +kernel
theorem d_X_activeEngine_12 : decode b_X_activeEngine 12 = .ok (.goto 7, 3) := by decide +kernel
theorem d_X_activeEngine_15 : decode b_X_activeEngine 15 = .ok (.aload_n 0, 1) := by decide +kernel
theorem d_X_activeEngine_16 : decode b_X_activeEngine 16 = .ok (.getfield 51, 3) := by decide +kernel
theorem d_X_activeEngine_19 : decode b_X_activeEngine 19 = .ok (.areturn, 1) := by decide +kernel
