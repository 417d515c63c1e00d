theorem d_Eng_passAll_0 : decode b_Eng_passAll 0 = .ok (.iconst 1, 1) := by decide +kernel
theorem d_Eng_passAll_1 : decode b_Eng_passAll 1 = .ok (.istore_n 1, 1) := by decide +kernel
theorem d_Eng_passAll_2 : decode b_Eng_passAll 2 = .ok (.iconst 0, 1) := by decide +kernel
theorem d_Eng_passAll_3 : decode b_Eng_passAll 3 = .ok (.istore_n 2, 1) := by decide +kernel
theorem d_Eng_passAll_4 : decode b_Eng_passAll 4 = .ok (.iload_n 2, 1) := by decide +kernel
theorem d_Eng_passAll_5 : decode b_Eng_passAll 5 = .ok (.sipush 3840, 3) := by decide +kernel
theorem d_Eng_passAll_8 : decode b_Eng_passAll 8 = .ok (.if_icmp .ge 33, 3) := by decide +kernel
theorem d_Eng_passAll_11 : decode b_Eng_passAll 11 = .ok (.iload_n 1, 1) := by decide +kernel
theorem d_Eng_passAll_12 : decode b_Eng_passAll 12 = .ok (.ifCond .eq 29, 3) := by decide +kernel
theorem d_Eng_passAll_15 : decode b_Eng_passAll 15 = .ok (.aload_n 0, 1) := by decide +kernel
theorem d_Eng_passAll_16 : decode b_Eng_passAll 16 = .ok (.getfield 27, 3) := by decide +kernel
theorem d_Eng_passAll_19 : decode b_Eng_passAll 19 = .ok (.ifCond .ne 14, 3) := by decide +kernel
theorem d_Eng_passAll_22 : decode b_Eng_passAll 22 = .ok (.aload_n 0, 1) := by decide +kernel
theorem d_Eng_passAll_23 : decode b_Eng_passAll 23 = .ok (.invokevirtual 57, 3) := by decide +kernel
theorem d_Eng_passAll_26 : decode b_Eng_passAll 26 = .ok (.ifCond .eq 7, 3) := by decide +kernel
theorem d_Eng_passAll_29 : decode b_Eng_passAll 29 = .ok (.iconst 1, 1) := by decide +kernel
theorem d_Eng_passAll_30 : decode b_Eng_passAll 30 = .ok (.goto 4, 3) := by decide +kernel
theorem d_Eng_passAll_33 : decode b_Eng_passAll 33 = .ok (.iconst 0, 1) := by decide +kernel
theorem d_Eng_passAll_34 : decode b_Eng_passAll 34 = .ok (.istore_n 1, 1) := by decide +kernel
theorem d_Eng_passAll_35 : decode b_Eng_passAll 35 = .ok (.iinc 2 1, 3) := by decide +kernel
theorem d_Eng_passAll_38 : decode b_Eng_passAll 38 = .ok (.goto (-34), 3) := by decide +kernel
theorem d_Eng_passAll_41 : decode b_Eng_passAll 41 = .ok (.return_, 1) := by decide +kernel
theorem d_Eng_go_0 : decode b_Eng_go 0 = .ok (.aload_n 0, 1) := by decide +kernel
theorem d_Eng_go_1 : decode b_Eng_go 1 = .ok (.invokevirtual 44, 3) := by decide +kernel
theorem d_Eng_go_4 : decode b_Eng_go 4 = .ok (.iload_n 1, 1) := by decide +kernel
theorem d_Eng_go_5 : decode b_Eng_go 5 = .ok (.ldc 47, 2) := by decide +kernel
theorem d_Eng_go_7 : decode b_Eng_go 7 = .ok (.invokestatic 48, 3) := by decide +kernel
theorem d_Eng_go_10 : decode b_Eng_go 10 = .ok (.istore_n 2, 1) := by decide +kernel
theorem d_Eng_go_11 : decode b_Eng_go 11 = .ok (.iload_n 2, 1) := by decide +kernel
theorem d_Eng_go_12 : decode b_Eng_go 12 = .ok (.ifCond .le 24, 3) := by decide +kernel
theorem d_Eng_go_15 : decode b_Eng_go 15 = .ok (.aload_n 0, 1) := by decide +kernel
theorem d_Eng_go_16 : decode b_Eng_go 16 = .ok (.getfield 27, 3) := by decide +kernel
theorem d_Eng_go_19 : decode b_Eng_go 19 = .ok (.ifCond .ne 17, 3) := by decide +kernel
theorem d_Eng_go_22 : decode b_Eng_go 22 = .ok (.aload_n 0, 1) := by decide +kernel
theorem d_Eng_go_23 : decode b_Eng_go 23 = .ok (.invokevirtual 54, 3) := by decide +kernel
theorem d_Eng_go_26 : decode b_Eng_go 26 = .ok (.aload_n 0, 1) := by decide +kernel
theorem d_Eng_go_27 : decode b_Eng_go 27 = .ok (.invokevirtual 44, 3) := by decide +kernel
theorem d_Eng_go_30 : decode b_Eng_go 30 = .ok (.iinc 2 (-1), 3) := by decide +kernel
theorem d_Eng_go_33 : decode b_Eng_go 33 = .ok (.goto (-22), 3) := by decide +kernel
theorem d_Eng_go_36 : decode b_Eng_go 36 = .ok (.aload_n 0, 1) := by decide +kernel
theorem d_Eng_go_37 : decode b_Eng_go 37 = .ok (.getfield 27, 3) := by decide +kernel
theorem d_Eng_go_40 : decode b_Eng_go 40 = .ok (.ireturn, 1) := by decide +kernel
theorem d_Eng_begin_0 : decode b_Eng_begin 0 = .ok (.aload_n 0, 1) := by decide +kernel
theorem d_Eng_begin_1 : decode b_Eng_begin 1 = .ok (.iconst 0, 1) := by decide +kernel
theorem d_Eng_begin_2 : decode b_Eng_begin 2 = .ok (.putfield 27, 3) := by decide +kernel
theorem d_Eng_begin_5 : decode b_Eng_begin 5 = .ok (.aload_n 0, 1) := by decide +kernel
theorem d_Eng_begin_6 : decode b_Eng_begin 6 = .ok (.iconst 0, 1) := by decide +kernel
theorem d_Eng_begin_7 : decode b_Eng_begin 7 = .ok (.putfield 31, 3) := by decide +kernel
theorem d_Eng_begin_10 : decode b_Eng_begin 10 = .ok (.aload_n 0, 1) := by decide +kernel
theorem d_Eng_begin_11 : decode b_Eng_begin 11 = .ok (.iconst 0, 1) := by decide +kernel
theorem d_Eng_begin_12 : decode b_Eng_begin 12 = .ok (.putfield 34, 3) := by decide +kernel
theorem d_Eng_begin_15 : decode b_Eng_begin 15 = .ok (.aload_n 0, 1) := by decide +kernel
theorem d_Eng_begin_16 : decode b_Eng_begin 16 = .ok (.aload_n 2, 1) := by decide +kernel
theorem d_Eng_begin_17 : decode b_Eng_begin 17 = .ok (.iconst 0, 1) := by decide +kernel
theorem d_Eng_begin_18 : decode b_Eng_begin 18 = .ok (.iload_n 3, 1) := by decide +kernel
theorem d_Eng_begin_19 : decode b_Eng_begin 19 = .ok (.invokevirtual 37, 3) := by decide +kernel
theorem d_Eng_begin_22 : decode b_Eng_begin 22 = .ok (.aload_n 0, 1) := by decide +kernel
theorem d_Eng_begin_23 : decode b_Eng_begin 23 = .ok (.iload_n 1, 1) := by decide +kernel
theorem d_Eng_begin_24 : decode b_Eng_begin 24 = .ok (.invokevirtual 41, 3) := by decide +kernel
theorem d_Eng_begin_27 : decode b_Eng_begin 27 = .ok (.return_, 1) := by decide +kernel
theorem d_RE_enter_0 : decode b_RE_enter 0 = .ok (.aload_n 0, 1) := by decide +kernel
theorem d_RE_enter_1 : decode b_RE_enter 1 = .ok (.aload_n 0, 1) := by decide +kernel
theorem d_RE_enter_2 : decode b_RE_enter 2 = .ok (.getfield 9, 3) := by decide +kernel
theorem d_RE_enter_5 : decode b_RE_enter 5 = .ok (.iload_n 1, 1) := by decide +kernel
theorem d_RE_enter_6 : decode b_RE_enter 6 = .ok (.invokevirtual 15, 3) := by decide +kernel
theorem d_RE_enter_9 : decode b_RE_enter 9 = .ok (.putfield 21, 3) := by decide +kernel
theorem d_RE_enter_12 : decode b_RE_enter 12 = .ok (.return_, 1) := by decide +kernel
theorem d_RE_leave_0 : decode b_RE_leave 0 = .ok (.aload_n 0, 1) := by decide +kernel
theorem d_RE_leave_1 : decode b_RE_leave 1 = .ok (.aload_n 0, 1) := by decide +kernel
theorem d_RE_leave_2 : decode b_RE_leave 2 = .ok (.getfield 35, 3) := by decide +kernel
theorem d_RE_leave_5 : decode b_RE_leave 5 = .ok (.aload_n 0, 1) := by decide +kernel
theorem d_RE_leave_6 : decode b_RE_leave 6 = .ok (.getfield 9, 3) := by decide +kernel
theorem d_RE_leave_9 : decode b_RE_leave 9 = .ok (.aload_n 0, 1) := by decide +kernel
theorem d_RE_leave_10 : decode b_RE_leave 10 = .ok (.getfield 21, 3) := by decide +kernel
theorem d_RE_leave_13 : decode b_RE_leave 13 = .ok (.iconst 1, 1) := by decide +kernel
theorem d_RE_leave_14 : decode b_RE_leave 14 = .ok (.invokevirtual 25, 3) := by decide +kernel
theorem d_RE_leave_17 : decode b_RE_leave 17 = .ok (.iadd, 1) := by decide +kernel
theorem d_RE_leave_18 : decode b_RE_leave 18 = .ok (.aload_n 0, 1) := by decide +kernel
theorem d_RE_leave_19 : decode b_RE_leave 19 = .ok (.getfield 9, 3) := by decide +kernel
theorem d_RE_leave_22 : decode b_RE_leave 22 = .ok (.aload_n 0, 1) := by decide +kernel
theorem d_RE_leave_23 : decode b_RE_leave 23 = .ok (.getfield 21, 3) := by decide +kernel
theorem d_RE_leave_26 : decode b_RE_leave 26 = .ok (.iconst 3, 1) := by decide +kernel
theorem d_RE_leave_27 : decode b_RE_leave 27 = .ok (.invokevirtual 25, 3) := by decide +kernel
theorem d_RE_leave_30 : decode b_RE_leave 30 = .ok (.invokevirtual 88, 3) := by decide +kernel
theorem d_RE_leave_33 : decode b_RE_leave 33 = .ok (.pop, 1) := by decide +kernel
theorem d_RE_leave_34 : decode b_RE_leave 34 = .ok (.return_, 1) := by decide +kernel
theorem d_RE_pass_0 : decode b_RE_pass 0 = .ok (.aload_n 0, 1) := by decide +kernel
theorem d_RE_pass_1 : decode b_RE_pass 1 = .ok (.getfield 9, 3) := by decide +kernel
theorem d_RE_pass_4 : decode b_RE_pass 4 = .ok (.aload_n 0, 1) := by decide +kernel
theorem d_RE_pass_5 : decode b_RE_pass 5 = .ok (.getfield 21, 3) := by decide +kernel
theorem d_RE_pass_8 : decode b_RE_pass 8 = .ok (.iconst 0, 1) := by decide +kernel
theorem d_RE_pass_9 : decode b_RE_pass 9 = .ok (.invokevirtual 25, 3) := by decide +kernel
theorem d_RE_pass_12 : decode b_RE_pass 12 = .ok (.istore_n 1, 1) := by decide +kernel
theorem d_RE_pass_13 : decode b_RE_pass 13 = .ok (.iload_n 1, 1) := by decide +kernel
theorem d_RE_pass_14 : decode b_RE_pass 14 = .ok (.iconst 5, 1) := by decide +kernel
theorem d_RE_pass_15 : decode b_RE_pass 15 = .ok (.if_icmp .ne 21, 3) := by decide +kernel
theorem d_RE_pass_18 : decode b_RE_pass 18 = .ok (.aload_n 0, 1) := by decide +kernel
theorem d_RE_pass_19 : decode b_RE_pass 19 = .ok (.aload_n 0, 1) := by decide +kernel
theorem d_RE_pass_20 : decode b_RE_pass 20 = .ok (.getfield 9, 3) := by decide +kernel
theorem d_RE_pass_23 : decode b_RE_pass 23 = .ok (.aload_n 0, 1) := by decide +kernel
theorem d_RE_pass_24 : decode b_RE_pass 24 = .ok (.getfield 21, 3) := by decide +kernel
theorem d_RE_pass_27 : decode b_RE_pass 27 = .ok (.iconst 2, 1) := by decide +kernel
theorem d_RE_pass_28 : decode b_RE_pass 28 = .ok (.invokevirtual 25, 3) := by decide +kernel
theorem d_RE_pass_31 : decode b_RE_pass 31 = .ok (.putfield 21, 3) := by decide +kernel
theorem d_RE_pass_34 : decode b_RE_pass 34 = .ok (.iconst 1, 1) := by decide +kernel
theorem d_RE_pass_35 : decode b_RE_pass 35 = .ok (.ireturn, 1) := by decide +kernel
theorem d_RE_pass_36 : decode b_RE_pass 36 = .ok (.iload_n 1, 1) := by decide +kernel
theorem d_RE_pass_37 : decode b_RE_pass 37 = .ok (.bipush 11, 2) := by decide +kernel
theorem d_RE_pass_39 : decode b_RE_pass 39 = .ok (.if_icmp .eq 5, 3) := by decide +kernel
theorem d_RE_pass_42 : decode b_RE_pass 42 = .ok (.iconst 0, 1) := by decide +kernel
theorem d_RE_pass_43 : decode b_RE_pass 43 = .ok (.ireturn, 1) := by decide +kernel
theorem d_RE_pass_44 : decode b_RE_pass 44 = .ok (.aload_n 0, 1) := by decide +kernel
theorem d_RE_pass_45 : decode b_RE_pass 45 = .ok (.invokevirtual 31, 3) := by decide +kernel
theorem d_RE_pass_48 : decode b_RE_pass 48 = .ok (.iconst 1, 1) := by decide +kernel
theorem d_RE_pass_49 : decode b_RE_pass 49 = .ok (.ireturn, 1) := by decide +kernel
theorem d_RE_call_0 : decode b_RE_call 0 = .ok (.aload_n 0, 1) := by decide +kernel
theorem d_RE_call_1 : decode b_RE_call 1 = .ok (.getfield 9, 3) := by decide +kernel
theorem d_RE_call_4 : decode b_RE_call 4 = .ok (.aload_n 0, 1) := by decide +kernel
theorem d_RE_call_5 : decode b_RE_call 5 = .ok (.getfield 21, 3) := by decide +kernel
theorem d_RE_call_8 : decode b_RE_call 8 = .ok (.iconst 2, 1) := by decide +kernel
theorem d_RE_call_9 : decode b_RE_call 9 = .ok (.invokevirtual 25, 3) := by decide +kernel
theorem d_RE_call_12 : decode b_RE_call 12 = .ok (.istore_n 2, 1) := by decide +kernel
theorem d_RE_call_13 : decode b_RE_call 13 = .ok (.aload_n 0, 1) := by decide +kernel
theorem d_RE_call_14 : decode b_RE_call 14 = .ok (.iload_n 1, 1) := by decide +kernel
theorem d_RE_call_15 : decode b_RE_call 15 = .ok (.aload_n 0, 1) := by decide +kernel
theorem d_RE_call_16 : decode b_RE_call 16 = .ok (.getfield 9, 3) := by decide +kernel
theorem d_RE_call_19 : decode b_RE_call 19 = .ok (.aload_n 0, 1) := by decide +kernel
theorem d_RE_call_20 : decode b_RE_call 20 = .ok (.getfield 21, 3) := by decide +kernel
theorem d_RE_call_23 : decode b_RE_call 23 = .ok (.iconst 3, 1) := by decide +kernel
theorem d_RE_call_24 : decode b_RE_call 24 = .ok (.invokevirtual 25, 3) := by decide +kernel
theorem d_RE_call_27 : decode b_RE_call 27 = .ok (.invokevirtual 85, 3) := by decide +kernel
theorem d_RE_call_30 : decode b_RE_call 30 = .ok (.ifCond .eq 8, 3) := by decide +kernel
theorem d_RE_call_33 : decode b_RE_call 33 = .ok (.aload_n 0, 1) := by decide +kernel
theorem d_RE_call_34 : decode b_RE_call 34 = .ok (.iload_n 2, 1) := by decide +kernel
theorem d_RE_call_35 : decode b_RE_call 35 = .ok (.putfield 21, 3) := by decide +kernel
theorem d_RE_call_38 : decode b_RE_call 38 = .ok (.return_, 1) := by decide +kernel
theorem d_RE_branch_0 : decode b_RE_branch 0 = .ok (.aload_n 0, 1) := by decide +kernel
theorem d_RE_branch_1 : decode b_RE_branch 1 = .ok (.getfield 9, 3) := by decide +kernel
theorem d_RE_branch_4 : decode b_RE_branch 4 = .ok (.iload_n 1, 1) := by decide +kernel
theorem d_RE_branch_5 : decode b_RE_branch 5 = .ok (.iconst 3, 1) := by decide +kernel
theorem d_RE_branch_6 : decode b_RE_branch 6 = .ok (.invokevirtual 25, 3) := by decide +kernel
theorem d_RE_branch_9 : decode b_RE_branch 9 = .ok (.istore_n 3, 1) := by decide +kernel
theorem d_RE_branch_10 : decode b_RE_branch 10 = .ok (.iload_n 3, 1) := by decide +kernel
theorem d_RE_branch_11 : decode b_RE_branch 11 = .ok (.iconst 1, 1) := by decide +kernel
theorem d_RE_branch_12 : decode b_RE_branch 12 = .ok (.iand, 1) := by decide +kernel
theorem d_RE_branch_13 : decode b_RE_branch 13 = .ok (.iconst 1, 1) := by decide +kernel
theorem d_RE_branch_14 : decode b_RE_branch 14 = .ok (.if_icmp .ne 34, 3) := by decide +kernel
theorem d_RE_branch_17 : decode b_RE_branch 17 = .ok (.aload_n 0, 1) := by decide +kernel
theorem d_RE_branch_18 : decode b_RE_branch 18 = .ok (.getfield 46, 3) := by decide +kernel
theorem d_RE_branch_21 : decode b_RE_branch 21 = .ok (.getfield 59, 3) := by decide +kernel
theorem d_RE_branch_24 : decode b_RE_branch 24 = .ok (.aload_n 0, 1) := by decide +kernel
theorem d_RE_branch_25 : decode b_RE_branch 25 = .ok (.getfield 35, 3) := by decide +kernel
theorem d_RE_branch_28 : decode b_RE_branch 28 = .ok (.iload_n 3, 1) := by decide +kernel
theorem d_RE_branch_29 : decode b_RE_branch 29 = .ok (.iconst 1, 1) := by decide +kernel
theorem d_RE_branch_30 : decode b_RE_branch 30 = .ok (.ishr, 1) := by decide +kernel
theorem d_RE_branch_31 : decode b_RE_branch 31 = .ok (.iadd, 1) := by decide +kernel
theorem d_RE_branch_32 : decode b_RE_branch 32 = .ok (.aload_n 0, 1) := by decide +kernel
theorem d_RE_branch_33 : decode b_RE_branch 33 = .ok (.getfield 46, 3) := by decide +kernel
theorem d_RE_branch_36 : decode b_RE_branch 36 = .ok (.getfield 59, 3) := by decide +kernel
theorem d_RE_branch_39 : decode b_RE_branch 39 = .ok (.iload_n 2, 1) := by decide +kernel
theorem d_RE_branch_40 : decode b_RE_branch 40 = .ok (.iconst 1, 1) := by decide +kernel
theorem d_RE_branch_41 : decode b_RE_branch 41 = .ok (.isub, 1) := by decide +kernel
theorem d_RE_branch_42 : decode b_RE_branch 42 = .ok (.invokevirtual 63, 3) := by decide +kernel
theorem d_RE_branch_45 : decode b_RE_branch 45 = .ok (.invokevirtual 82, 3) := by decide +kernel
theorem d_RE_branch_48 : decode b_RE_branch 48 = .ok (.aload_n 0, 1) := by decide +kernel
theorem d_RE_branch_49 : decode b_RE_branch 49 = .ok (.aload_n 0, 1) := by decide +kernel
theorem d_RE_branch_50 : decode b_RE_branch 50 = .ok (.getfield 9, 3) := by decide +kernel
theorem d_RE_branch_53 : decode b_RE_branch 53 = .ok (.iload_n 1, 1) := by decide +kernel
theorem d_RE_branch_54 : decode b_RE_branch 54 = .ok (.iconst 2, 1) := by decide +kernel
theorem d_RE_branch_55 : decode b_RE_branch 55 = .ok (.invokevirtual 25, 3) := by decide +kernel
theorem d_RE_branch_58 : decode b_RE_branch 58 = .ok (.putfield 21, 3) := by decide +kernel
theorem d_RE_branch_61 : decode b_RE_branch 61 = .ok (.return_, 1) := by decide +kernel
theorem d_RE_branchByTable_0 : decode b_RE_branchByTable 0 = .ok (.aload_n 0, 1) := by decide +kernel
theorem d_RE_branchByTable_1 : decode b_RE_branchByTable 1 = .ok (.getfield 9, 3) := by decide +kernel
theorem d_RE_branchByTable_4 : decode b_RE_branchByTable 4 = .ok (.aload_n 0, 1) := by decide +kernel
theorem d_RE_branchByTable_5 : decode b_RE_branchByTable 5 = .ok (.getfield 21, 3) := by decide +kernel
theorem d_RE_branchByTable_8 : decode b_RE_branchByTable 8 = .ok (.iconst 2, 1) := by decide +kernel
theorem d_RE_branchByTable_9 : decode b_RE_branchByTable 9 = .ok (.invokevirtual 25, 3) := by decide +kernel
theorem d_RE_branchByTable_12 : decode b_RE_branchByTable 12 = .ok (.istore_n 2, 1) := by decide +kernel
theorem d_RE_branchByTable_13 : decode b_RE_branchByTable 13 = .ok (.aload_n 0, 1) := by decide +kernel
theorem d_RE_branchByTable_14 : decode b_RE_branchByTable 14 = .ok (.getfield 21, 3) := by decide +kernel
theorem d_RE_branchByTable_17 : decode b_RE_branchByTable 17 = .ok (.iconst 1, 1) := by decide +kernel
theorem d_RE_branchByTable_18 : decode b_RE_branchByTable 18 = .ok (.iadd, 1) := by decide +kernel
theorem d_RE_branchByTable_19 : decode b_RE_branchByTable 19 = .ok (.iload_n 1, 1) := by decide +kernel
theorem d_RE_branchByTable_20 : decode b_RE_branchByTable 20 = .ok (.iload_n 2, 1) := by decide +kernel
theorem d_RE_branchByTable_21 : decode b_RE_branchByTable 21 = .ok (.invokestatic 78, 3) := by decide +kernel
theorem d_RE_branchByTable_24 : decode b_RE_branchByTable 24 = .ok (.ifCond .eq 7, 3) := by decide +kernel
theorem d_RE_branchByTable_27 : decode b_RE_branchByTable 27 = .ok (.iload_n 2, 1) := by decide +kernel
theorem d_RE_branchByTable_28 : decode b_RE_branchByTable 28 = .ok (.goto 4, 3) := by decide +kernel
theorem d_RE_branchByTable_31 : decode b_RE_branchByTable 31 = .ok (.iload_n 1, 1) := by decide +kernel
theorem d_RE_branchByTable_32 : decode b_RE_branchByTable 32 = .ok (.iadd, 1) := by decide +kernel
theorem d_RE_branchByTable_33 : decode b_RE_branchByTable 33 = .ok (.istore_n 3, 1) := by decide +kernel
theorem d_RE_branchByTable_34 : decode b_RE_branchByTable 34 = .ok (.aload_n 0, 1) := by decide +kernel
theorem d_RE_branchByTable_35 : decode b_RE_branchByTable 35 = .ok (.iload_n 3, 1) := by decide +kernel
theorem d_RE_branchByTable_36 : decode b_RE_branchByTable 36 = .ok (.aload_n 0, 1) := by decide +kernel
theorem d_RE_branchByTable_37 : decode b_RE_branchByTable 37 = .ok (.getfield 35, 3) := by decide +kernel
theorem d_RE_branchByTable_40 : decode b_RE_branchByTable 40 = .ok (.aload_n 0, 1) := by decide +kernel
theorem d_RE_branchByTable_41 : decode b_RE_branchByTable 41 = .ok (.getfield 9, 3) := by decide +kernel
theorem d_RE_branchByTable_44 : decode b_RE_branchByTable 44 = .ok (.iload_n 3, 1) := by decide +kernel
theorem d_RE_branchByTable_45 : decode b_RE_branchByTable 45 = .ok (.iconst 1, 1) := by decide +kernel
theorem d_RE_branchByTable_46 : decode b_RE_branchByTable 46 = .ok (.invokevirtual 25, 3) := by decide +kernel
theorem d_RE_branchByTable_49 : decode b_RE_branchByTable 49 = .ok (.iadd, 1) := by decide +kernel
theorem d_RE_branchByTable_50 : decode b_RE_branchByTable 50 = .ok (.invokevirtual 68, 3) := by decide +kernel
theorem d_RE_branchByTable_53 : decode b_RE_branchByTable 53 = .ok (.return_, 1) := by decide +kernel
theorem d_RE_control_0 : decode b_RE_control 0 = .ok (.aload_n 0, 1) := by decide +kernel
theorem d_RE_control_1 : decode b_RE_control 1 = .ok (.getfield 46, 3) := by decide +kernel
theorem d_RE_control_4 : decode b_RE_control 4 = .ok (.getfield 59, 3) := by decide +kernel
theorem d_RE_control_7 : decode b_RE_control 7 = .ok (.iload_n 2, 1) := by decide +kernel
theorem d_RE_control_8 : decode b_RE_control 8 = .ok (.iconst 1, 1) := by decide +kernel
theorem d_RE_control_9 : decode b_RE_control 9 = .ok (.isub, 1) := by decide +kernel
theorem d_RE_control_10 : decode b_RE_control 10 = .ok (.invokevirtual 63, 3) := by decide +kernel
theorem d_RE_control_13 : decode b_RE_control 13 = .ok (.istore_n 3, 1) := by decide +kernel
theorem d_RE_control_14 : decode b_RE_control 14 = .ok (.iload_n 1, 1) := by decide +kernel
theorem d_RE_control_15 : decode b_RE_control 15 = .ok (.tableswitch 187 0 16 #[81, 187, 187, 187, 89, 187, 187, 187, 187, 187, 187, 187, 121, 133, 164, 172, 179], 81) := by decide +kernel
theorem d_RE_control_96 : decode b_RE_control 96 = .ok (.aload_n 0, 1) := by decide +kernel
theorem d_RE_control_97 : decode b_RE_control 97 = .ok (.iconst 2, 1) := by decide +kernel
theorem d_RE_control_98 : decode b_RE_control 98 = .ok (.putfield 56, 3) := by decide +kernel
theorem d_RE_control_101 : decode b_RE_control 101 = .ok (.goto 111, 3) := by decide +kernel
theorem d_RE_control_104 : decode b_RE_control 104 = .ok (.aload_n 0, 1) := by decide +kernel
theorem d_RE_control_105 : decode b_RE_control 105 = .ok (.iload_n 3, 1) := by decide +kernel
theorem d_RE_control_106 : decode b_RE_control 106 = .ok (.ifCond .eq 12, 3) := by decide +kernel
theorem d_RE_control_109 : decode b_RE_control 109 = .ok (.aload_n 0, 1) := by decide +kernel
theorem d_RE_control_110 : decode b_RE_control 110 = .ok (.getfield 21, 3) := by decide +kernel
theorem d_RE_control_113 : decode b_RE_control 113 = .ok (.iconst 1, 1) := by decide +kernel
theorem d_RE_control_114 : decode b_RE_control 114 = .ok (.iadd, 1) := by decide +kernel
theorem d_RE_control_115 : decode b_RE_control 115 = .ok (.goto 15, 3) := by decide +kernel
theorem d_RE_control_118 : decode b_RE_control 118 = .ok (.aload_n 0, 1) := by decide +kernel
theorem d_RE_control_119 : decode b_RE_control 119 = .ok (.getfield 9, 3) := by decide +kernel
theorem d_RE_control_122 : decode b_RE_control 122 = .ok (.aload_n 0, 1) := by decide +kernel
theorem d_RE_control_123 : decode b_RE_control 123 = .ok (.getfield 21, 3) := by decide +kernel
theorem d_RE_control_126 : decode b_RE_control 126 = .ok (.iconst 2, 1) := by decide +kernel
theorem d_RE_control_127 : decode b_RE_control 127 = .ok (.invokevirtual 25, 3) := by decide +kernel
theorem d_RE_control_130 : decode b_RE_control 130 = .ok (.putfield 21, 3) := by decide +kernel
theorem d_RE_control_133 : decode b_RE_control 133 = .ok (.goto 79, 3) := by decide +kernel
theorem d_RE_control_136 : decode b_RE_control 136 = .ok (.aload_n 0, 1) := by decide +kernel
theorem d_RE_control_137 : decode b_RE_control 137 = .ok (.aload_n 0, 1) := by decide +kernel
theorem d_RE_control_138 : decode b_RE_control 138 = .ok (.getfield 21, 3) := by decide +kernel
theorem d_RE_control_141 : decode b_RE_control 141 = .ok (.iload_n 2, 1) := by decide +kernel
theorem d_RE_control_142 : decode b_RE_control 142 = .ok (.invokevirtual 68, 3) := by decide +kernel
theorem d_RE_control_145 : decode b_RE_control 145 = .ok (.goto 67, 3) := by decide +kernel
theorem d_RE_control_148 : decode b_RE_control 148 = .ok (.iload_n 3, 1) := by decide +kernel
theorem d_RE_control_149 : decode b_RE_control 149 = .ok (.ifCond .eq 17, 3) := by decide +kernel
theorem d_RE_control_152 : decode b_RE_control 152 = .ok (.aload_n 0, 1) := by decide +kernel
theorem d_RE_control_153 : decode b_RE_control 153 = .ok (.aload_n 0, 1) := by decide +kernel
theorem d_RE_control_154 : decode b_RE_control 154 = .ok (.getfield 21, 3) := by decide +kernel
theorem d_RE_control_157 : decode b_RE_control 157 = .ok (.iload_n 2, 1) := by decide +kernel
theorem d_RE_control_158 : decode b_RE_control 158 = .ok (.iconst 1, 1) := by decide +kernel
theorem d_RE_control_159 : decode b_RE_control 159 = .ok (.isub, 1) := by decide +kernel
theorem d_RE_control_160 : decode b_RE_control 160 = .ok (.invokevirtual 68, 3) := by decide +kernel
theorem d_RE_control_163 : decode b_RE_control 163 = .ok (.goto 49, 3) := by decide +kernel
theorem d_RE_control_166 : decode b_RE_control 166 = .ok (.aload_n 0, 1) := by decide +kernel
theorem d_RE_control_167 : decode b_RE_control 167 = .ok (.dup, 1) := by decide +kernel
theorem d_RE_control_168 : decode b_RE_control 168 = .ok (.getfield 21, 3) := by decide +kernel
theorem d_RE_control_171 : decode b_RE_control 171 = .ok (.iconst 1, 1) := by decide +kernel
theorem d_RE_control_172 : decode b_RE_control 172 = .ok (.iadd, 1) := by decide +kernel
theorem d_RE_control_173 : decode b_RE_control 173 = .ok (.putfield 21, 3) := by decide +kernel
theorem d_RE_control_176 : decode b_RE_control 176 = .ok (.goto 36, 3) := by decide +kernel
theorem d_RE_control_179 : decode b_RE_control 179 = .ok (.aload_n 0, 1) := by decide +kernel
theorem d_RE_control_180 : decode b_RE_control 180 = .ok (.iload_n 3, 1) := by decide +kernel
theorem d_RE_control_181 : decode b_RE_control 181 = .ok (.invokevirtual 71, 3) := by decide +kernel
theorem d_RE_control_184 : decode b_RE_control 184 = .ok (.goto 28, 3) := by decide +kernel
theorem d_RE_control_187 : decode b_RE_control 187 = .ok (.aload_n 0, 1) := by decide +kernel
theorem d_RE_control_188 : decode b_RE_control 188 = .ok (.invokevirtual 31, 3) := by decide +kernel
theorem d_RE_control_191 : decode b_RE_control 191 = .ok (.goto 21, 3) := by decide +kernel
theorem d_RE_control_194 : decode b_RE_control 194 = .ok (.aload_n 0, 1) := by decide +kernel
theorem d_RE_control_195 : decode b_RE_control 195 = .ok (.iload_n 2, 1) := by decide +kernel
theorem d_RE_control_196 : decode b_RE_control 196 = .ok (.invokevirtual 75, 3) := by decide +kernel
theorem d_RE_control_199 : decode b_RE_control 199 = .ok (.goto 13, 3) := by decide +kernel
theorem d_RE_control_202 : decode b_RE_control 202 = .ok (.aload_n 0, 1) := by decide +kernel
theorem d_RE_control_203 : decode b_RE_control 203 = .ok (.dup, 1) := by decide +kernel
theorem d_RE_control_204 : decode b_RE_control 204 = .ok (.getfield 21, 3) := by decide +kernel
theorem d_RE_control_207 : decode b_RE_control 207 = .ok (.iconst 1, 1) := by decide +kernel
theorem d_RE_control_208 : decode b_RE_control 208 = .ok (.iadd, 1) := by decide +kernel
theorem d_RE_control_209 : decode b_RE_control 209 = .ok (.putfield 21, 3) := by decide +kernel
theorem d_RE_control_212 : decode b_RE_control 212 = .ok (.return_, 1) := by decide +kernel
theorem d_RE_step_0 : decode b_RE_step 0 = .ok (.aload_n 0, 1) := by decide +kernel
theorem d_RE_step_1 : decode b_RE_step 1 = .ok (.getfield 9, 3) := by decide +kernel
theorem d_RE_step_4 : decode b_RE_step 4 = .ok (.aload_n 0, 1) := by decide +kernel
theorem d_RE_step_5 : decode b_RE_step 5 = .ok (.getfield 21, 3) := by decide +kernel
theorem d_RE_step_8 : decode b_RE_step 8 = .ok (.iconst 0, 1) := by decide +kernel
theorem d_RE_step_9 : decode b_RE_step 9 = .ok (.invokevirtual 25, 3) := by decide +kernel
theorem d_RE_step_12 : decode b_RE_step 12 = .ok (.istore_n 1, 1) := by decide +kernel
theorem d_RE_step_13 : decode b_RE_step 13 = .ok (.aload_n 0, 1) := by decide +kernel
theorem d_RE_step_14 : decode b_RE_step 14 = .ok (.getfield 35, 3) := by decide +kernel
theorem d_RE_step_17 : decode b_RE_step 17 = .ok (.aload_n 0, 1) := by decide +kernel
theorem d_RE_step_18 : decode b_RE_step 18 = .ok (.getfield 9, 3) := by decide +kernel
theorem d_RE_step_21 : decode b_RE_step 21 = .ok (.aload_n 0, 1) := by decide +kernel
theorem d_RE_step_22 : decode b_RE_step 22 = .ok (.getfield 21, 3) := by decide +kernel
theorem d_RE_step_25 : decode b_RE_step 25 = .ok (.iconst 1, 1) := by decide +kernel
theorem d_RE_step_26 : decode b_RE_step 26 = .ok (.invokevirtual 25, 3) := by decide +kernel
theorem d_RE_step_29 : decode b_RE_step 29 = .ok (.iadd, 1) := by decide +kernel
theorem d_RE_step_30 : decode b_RE_step 30 = .ok (.istore_n 2, 1) := by decide +kernel
theorem d_RE_step_31 : decode b_RE_step 31 = .ok (.iload_n 1, 1) := by decide +kernel
theorem d_RE_step_32 : decode b_RE_step 32 = .ok (.invokestatic 38, 3) := by decide +kernel
theorem d_RE_step_35 : decode b_RE_step 35 = .ok (.ifCond .eq 10, 3) := by decide +kernel
theorem d_RE_step_38 : decode b_RE_step 38 = .ok (.aload_n 0, 1) := by decide +kernel
theorem d_RE_step_39 : decode b_RE_step 39 = .ok (.iload_n 1, 1) := by decide +kernel
theorem d_RE_step_40 : decode b_RE_step 40 = .ok (.iload_n 2, 1) := by decide +kernel
theorem d_RE_step_41 : decode b_RE_step 41 = .ok (.invokevirtual 42, 3) := by decide +kernel
theorem d_RE_step_44 : decode b_RE_step 44 = .ok (.return_, 1) := by decide +kernel
theorem d_RE_step_45 : decode b_RE_step 45 = .ok (.aload_n 0, 1) := by decide +kernel
theorem d_RE_step_46 : decode b_RE_step 46 = .ok (.getfield 46, 3) := by decide +kernel
theorem d_RE_step_49 : decode b_RE_step 49 = .ok (.iload_n 1, 1) := by decide +kernel
theorem d_RE_step_50 : decode b_RE_step 50 = .ok (.aload_n 0, 1) := by decide +kernel
theorem d_RE_step_51 : decode b_RE_step 51 = .ok (.getfield 9, 3) := by decide +kernel
theorem d_RE_step_54 : decode b_RE_step 54 = .ok (.aload_n 0, 1) := by decide +kernel
theorem d_RE_step_55 : decode b_RE_step 55 = .ok (.getfield 21, 3) := by decide +kernel
theorem d_RE_step_58 : decode b_RE_step 58 = .ok (.iconst 2, 1) := by decide +kernel
theorem d_RE_step_59 : decode b_RE_step 59 = .ok (.invokevirtual 25, 3) := by decide +kernel
theorem d_RE_step_62 : decode b_RE_step 62 = .ok (.aload_n 0, 1) := by decide +kernel
theorem d_RE_step_63 : decode b_RE_step 63 = .ok (.getfield 35, 3) := by decide +kernel
theorem d_RE_step_66 : decode b_RE_step 66 = .ok (.iload_n 2, 1) := by decide +kernel
theorem d_RE_step_67 : decode b_RE_step 67 = .ok (.invokevirtual 50, 3) := by decide +kernel
theorem d_RE_step_70 : decode b_RE_step 70 = .ok (.istore_n 3, 1) := by decide +kernel
theorem d_RE_step_71 : decode b_RE_step 71 = .ok (.iload_n 3, 1) := by decide +kernel
theorem d_RE_step_72 : decode b_RE_step 72 = .ok (.ifCond .eq 9, 3) := by decide +kernel
theorem d_RE_step_75 : decode b_RE_step 75 = .ok (.aload_n 0, 1) := by decide +kernel
theorem d_RE_step_76 : decode b_RE_step 76 = .ok (.iload_n 3, 1) := by decide +kernel
theorem d_RE_step_77 : decode b_RE_step 77 = .ok (.putfield 56, 3) := by decide +kernel
theorem d_RE_step_80 : decode b_RE_step 80 = .ok (.return_, 1) := by decide +kernel
theorem d_RE_step_81 : decode b_RE_step 81 = .ok (.aload_n 0, 1) := by decide +kernel
theorem d_RE_step_82 : decode b_RE_step 82 = .ok (.dup, 1) := by decide +kernel
theorem d_RE_step_83 : decode b_RE_step 83 = .ok (.getfield 21, 3) := by decide +kernel
theorem d_RE_step_86 : decode b_RE_step 86 = .ok (.iconst 1, 1) := by decide +kernel
theorem d_RE_step_87 : decode b_RE_step 87 = .ok (.iadd, 1) := by decide +kernel
theorem d_RE_step_88 : decode b_RE_step 88 = .ok (.putfield 21, 3) := by decide +kernel
theorem d_RE_step_91 : decode b_RE_step 91 = .ok (.return_, 1) := by decide +kernel
