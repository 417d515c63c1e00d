theorem d_Cont_clear_0 : decode b_Cont_clear 0 = .ok (.aload_n 0, 1) := by decide +kernel
theorem d_Cont_clear_1 : decode b_Cont_clear 1 = .ok (.getfield 14, 3) := by decide +kernel
theorem d_Cont_clear_4 : decode b_Cont_clear 4 = .ok (.invokevirtual 38, 3) := by decide +kernel
theorem d_Cont_clear_7 : decode b_Cont_clear 7 = .ok (.aload_n 0, 1) := by decide +kernel
theorem d_Cont_clear_8 : decode b_Cont_clear 8 = .ok (.getfield 20, 3) := by decide +kernel
theorem d_Cont_clear_11 : decode b_Cont_clear 11 = .ok (.invokevirtual 38, 3) := by decide +kernel
theorem d_Cont_clear_14 : decode b_Cont_clear 14 = .ok (.aload_n 0, 1) := by decide +kernel
theorem d_Cont_clear_15 : decode b_Cont_clear 15 = .ok (.getfield 23, 3) := by decide +kernel
theorem d_Cont_clear_18 : decode b_Cont_clear 18 = .ok (.invokevirtual 38, 3) := by decide +kernel
theorem d_Cont_clear_21 : decode b_Cont_clear 21 = .ok (.aload_n 0, 1) := by decide +kernel
theorem d_Cont_clear_22 : decode b_Cont_clear 22 = .ok (.getfield 26, 3) := by decide +kernel
theorem d_Cont_clear_25 : decode b_Cont_clear 25 = .ok (.invokevirtual 38, 3) := by decide +kernel
theorem d_Cont_clear_28 : decode b_Cont_clear 28 = .ok (.aload_n 0, 1) := by decide +kernel
theorem d_Cont_clear_29 : decode b_Cont_clear 29 = .ok (.getfield 29, 3) := by decide +kernel
theorem d_Cont_clear_32 : decode b_Cont_clear 32 = .ok (.invokevirtual 38, 3) := by decide +kernel
theorem d_Cont_clear_35 : decode b_Cont_clear 35 = .ok (.aload_n 0, 1) := by decide +kernel
theorem d_Cont_clear_36 : decode b_Cont_clear 36 = .ok (.getfield 32, 3) := by decide +kernel
theorem d_Cont_clear_39 : decode b_Cont_clear 39 = .ok (.invokevirtual 38, 3) := by decide +kernel
theorem d_Cont_clear_42 : decode b_Cont_clear 42 = .ok (.aload_n 0, 1) := by decide +kernel
theorem d_Cont_clear_43 : decode b_Cont_clear 43 = .ok (.getfield 35, 3) := by decide +kernel
theorem d_Cont_clear_46 : decode b_Cont_clear 46 = .ok (.invokevirtual 38, 3) := by decide +kernel
theorem d_Cont_clear_49 : decode b_Cont_clear 49 = .ok (.aload_n 0, 1) := by decide +kernel
theorem d_Cont_clear_50 : decode b_Cont_clear 50 = .ok (.iconst 0, 1) := by decide +kernel
theorem d_Cont_clear_51 : decode b_Cont_clear 51 = .ok (.putfield 41, 3) := by decide +kernel
theorem d_Cont_clear_54 : decode b_Cont_clear 54 = .ok (.aload_n 0, 1) := by decide +kernel
theorem d_Cont_clear_55 : decode b_Cont_clear 55 = .ok (.iconst 0, 1) := by decide +kernel
theorem d_Cont_clear_56 : decode b_Cont_clear 56 = .ok (.putfield 45, 3) := by decide +kernel
theorem d_Cont_clear_59 : decode b_Cont_clear 59 = .ok (.aload_n 0, 1) := by decide +kernel
theorem d_Cont_clear_60 : decode b_Cont_clear 60 = .ok (.iconst 0, 1) := by decide +kernel
theorem d_Cont_clear_61 : decode b_Cont_clear 61 = .ok (.putfield 49, 3) := by decide +kernel
theorem d_Cont_clear_64 : decode b_Cont_clear 64 = .ok (.return_, 1) := by decide +kernel
theorem d_Cont_parametersOf_0 : decode b_Cont_parametersOf 0 = .ok (.aload_n 0, 1) := by decide +kernel
theorem d_Cont_parametersOf_1 : decode b_Cont_parametersOf 1 = .ok (.getfield 20, 3) := by decide +kernel
theorem d_Cont_parametersOf_4 : decode b_Cont_parametersOf 4 = .ok (.iload_n 1, 1) := by decide +kernel
theorem d_Cont_parametersOf_5 : decode b_Cont_parametersOf 5 = .ok (.iconst 0, 1) := by decide +kernel
theorem d_Cont_parametersOf_6 : decode b_Cont_parametersOf 6 = .ok (.invokevirtual 52, 3) := by decide +kernel
theorem d_Cont_parametersOf_9 : decode b_Cont_parametersOf 9 = .ok (.istore_n 2, 1) := by decide +kernel
theorem d_Cont_parametersOf_10 : decode b_Cont_parametersOf 10 = .ok (.aload_n 0, 1) := by decide +kernel
theorem d_Cont_parametersOf_11 : decode b_Cont_parametersOf 11 = .ok (.getfield 14, 3) := by decide +kernel
theorem d_Cont_parametersOf_14 : decode b_Cont_parametersOf 14 = .ok (.iload_n 2, 1) := by decide +kernel
theorem d_Cont_parametersOf_15 : decode b_Cont_parametersOf 15 = .ok (.invokevirtual 56, 3) := by decide +kernel
theorem d_Cont_parametersOf_18 : decode b_Cont_parametersOf 18 = .ok (.ifCond .eq 15, 3) := by decide +kernel
theorem d_Cont_parametersOf_21 : decode b_Cont_parametersOf 21 = .ok (.aload_n 0, 1) := by decide +kernel
theorem d_Cont_parametersOf_22 : decode b_Cont_parametersOf 22 = .ok (.getfield 14, 3) := by decide +kernel
theorem d_Cont_parametersOf_25 : decode b_Cont_parametersOf 25 = .ok (.iload_n 2, 1) := by decide +kernel
theorem d_Cont_parametersOf_26 : decode b_Cont_parametersOf 26 = .ok (.iconst 0, 1) := by decide +kernel
theorem d_Cont_parametersOf_27 : decode b_Cont_parametersOf 27 = .ok (.invokevirtual 52, 3) := by decide +kernel
theorem d_Cont_parametersOf_30 : decode b_Cont_parametersOf 30 = .ok (.goto 4, 3) := by decide +kernel
theorem d_Cont_parametersOf_33 : decode b_Cont_parametersOf 33 = .ok (.iconst 0, 1) := by decide +kernel
theorem d_Cont_parametersOf_34 : decode b_Cont_parametersOf 34 = .ok (.ireturn, 1) := by decide +kernel
theorem d_Cont_resultsOf_0 : decode b_Cont_resultsOf 0 = .ok (.aload_n 0, 1) := by decide +kernel
theorem d_Cont_resultsOf_1 : decode b_Cont_resultsOf 1 = .ok (.getfield 20, 3) := by decide +kernel
theorem d_Cont_resultsOf_4 : decode b_Cont_resultsOf 4 = .ok (.iload_n 1, 1) := by decide +kernel
theorem d_Cont_resultsOf_5 : decode b_Cont_resultsOf 5 = .ok (.iconst 0, 1) := by decide +kernel
theorem d_Cont_resultsOf_6 : decode b_Cont_resultsOf 6 = .ok (.invokevirtual 52, 3) := by decide +kernel
theorem d_Cont_resultsOf_9 : decode b_Cont_resultsOf 9 = .ok (.istore_n 2, 1) := by decide +kernel
theorem d_Cont_resultsOf_10 : decode b_Cont_resultsOf 10 = .ok (.aload_n 0, 1) := by decide +kernel
theorem d_Cont_resultsOf_11 : decode b_Cont_resultsOf 11 = .ok (.getfield 14, 3) := by decide +kernel
theorem d_Cont_resultsOf_14 : decode b_Cont_resultsOf 14 = .ok (.iload_n 2, 1) := by decide +kernel
theorem d_Cont_resultsOf_15 : decode b_Cont_resultsOf 15 = .ok (.invokevirtual 56, 3) := by decide +kernel
theorem d_Cont_resultsOf_18 : decode b_Cont_resultsOf 18 = .ok (.ifCond .eq 15, 3) := by decide +kernel
theorem d_Cont_resultsOf_21 : decode b_Cont_resultsOf 21 = .ok (.aload_n 0, 1) := by decide +kernel
theorem d_Cont_resultsOf_22 : decode b_Cont_resultsOf 22 = .ok (.getfield 14, 3) := by decide +kernel
theorem d_Cont_resultsOf_25 : decode b_Cont_resultsOf 25 = .ok (.iload_n 2, 1) := by decide +kernel
theorem d_Cont_resultsOf_26 : decode b_Cont_resultsOf 26 = .ok (.iconst 1, 1) := by decide +kernel
theorem d_Cont_resultsOf_27 : decode b_Cont_resultsOf 27 = .ok (.invokevirtual 52, 3) := by decide +kernel
theorem d_Cont_resultsOf_30 : decode b_Cont_resultsOf 30 = .ok (.goto 4, 3) := by decide +kernel
theorem d_Cont_resultsOf_33 : decode b_Cont_resultsOf 33 = .ok (.iconst 0, 1) := by decide +kernel
theorem d_Cont_resultsOf_34 : decode b_Cont_resultsOf 34 = .ok (.ireturn, 1) := by decide +kernel
theorem d_Cont_labelResults_0 : decode b_Cont_labelResults 0 = .ok (.aload_n 0, 1) := by decide +kernel
theorem d_Cont_labelResults_1 : decode b_Cont_labelResults 1 = .ok (.getfield 32, 3) := by decide +kernel
theorem d_Cont_labelResults_4 : decode b_Cont_labelResults 4 = .ok (.iload_n 1, 1) := by decide +kernel
theorem d_Cont_labelResults_5 : decode b_Cont_labelResults 5 = .ok (.iconst 0, 1) := by decide +kernel
theorem d_Cont_labelResults_6 : decode b_Cont_labelResults 6 = .ok (.invokevirtual 52, 3) := by decide +kernel
theorem d_Cont_labelResults_9 : decode b_Cont_labelResults 9 = .ok (.iconst 3, 1) := by decide +kernel
theorem d_Cont_labelResults_10 : decode b_Cont_labelResults 10 = .ok (.if_icmp .eq 21, 3) := by decide +kernel
theorem d_Cont_labelResults_13 : decode b_Cont_labelResults 13 = .ok (.aload_n 0, 1) := by decide +kernel
theorem d_Cont_labelResults_14 : decode b_Cont_labelResults 14 = .ok (.getfield 32, 3) := by decide +kernel
theorem d_Cont_labelResults_17 : decode b_Cont_labelResults 17 = .ok (.iload_n 1, 1) := by decide +kernel
theorem d_Cont_labelResults_18 : decode b_Cont_labelResults 18 = .ok (.iconst 1, 1) := by decide +kernel
theorem d_Cont_labelResults_19 : decode b_Cont_labelResults 19 = .ok (.invokevirtual 52, 3) := by decide +kernel
theorem d_Cont_labelResults_22 : decode b_Cont_labelResults 22 = .ok (.bipush 127, 2) := by decide +kernel
theorem d_Cont_labelResults_24 : decode b_Cont_labelResults 24 = .ok (.if_icmp .ne 7, 3) := by decide +kernel
theorem d_Cont_labelResults_27 : decode b_Cont_labelResults 27 = .ok (.iconst 1, 1) := by decide +kernel
theorem d_Cont_labelResults_28 : decode b_Cont_labelResults 28 = .ok (.goto 4, 3) := by decide +kernel
theorem d_Cont_labelResults_31 : decode b_Cont_labelResults 31 = .ok (.iconst 0, 1) := by decide +kernel
theorem d_Cont_labelResults_32 : decode b_Cont_labelResults 32 = .ok (.ireturn, 1) := by decide +kernel
theorem d_Cont_blockResults_0 : decode b_Cont_blockResults 0 = .ok (.aload_n 0, 1) := by decide +kernel
theorem d_Cont_blockResults_1 : decode b_Cont_blockResults 1 = .ok (.getfield 32, 3) := by decide +kernel
theorem d_Cont_blockResults_4 : decode b_Cont_blockResults 4 = .ok (.iload_n 1, 1) := by decide +kernel
theorem d_Cont_blockResults_5 : decode b_Cont_blockResults 5 = .ok (.iconst 1, 1) := by decide +kernel
theorem d_Cont_blockResults_6 : decode b_Cont_blockResults 6 = .ok (.invokevirtual 52, 3) := by decide +kernel
theorem d_Cont_blockResults_9 : decode b_Cont_blockResults 9 = .ok (.bipush 127, 2) := by decide +kernel
theorem d_Cont_blockResults_11 : decode b_Cont_blockResults 11 = .ok (.if_icmp .ne 7, 3) := by decide +kernel
theorem d_Cont_blockResults_14 : decode b_Cont_blockResults 14 = .ok (.iconst 1, 1) := by decide +kernel
theorem d_Cont_blockResults_15 : decode b_Cont_blockResults 15 = .ok (.goto 4, 3) := by decide +kernel
theorem d_Cont_blockResults_18 : decode b_Cont_blockResults 18 = .ok (.iconst 0, 1) := by decide +kernel
theorem d_Cont_blockResults_19 : decode b_Cont_blockResults 19 = .ok (.ireturn, 1) := by decide +kernel
theorem d_Cont_endOf_0 : decode b_Cont_endOf 0 = .ok (.aload_n 0, 1) := by decide +kernel
theorem d_Cont_endOf_1 : decode b_Cont_endOf 1 = .ok (.getfield 32, 3) := by decide +kernel
theorem d_Cont_endOf_4 : decode b_Cont_endOf 4 = .ok (.iload_n 1, 1) := by decide +kernel
theorem d_Cont_endOf_5 : decode b_Cont_endOf 5 = .ok (.iconst 3, 1) := by decide +kernel
theorem d_Cont_endOf_6 : decode b_Cont_endOf 6 = .ok (.invokevirtual 52, 3) := by decide +kernel
theorem d_Cont_endOf_9 : decode b_Cont_endOf 9 = .ok (.istore_n 2, 1) := by decide +kernel
theorem d_Cont_endOf_10 : decode b_Cont_endOf 10 = .ok (.aload_n 0, 1) := by decide +kernel
theorem d_Cont_endOf_11 : decode b_Cont_endOf 11 = .ok (.getfield 32, 3) := by decide +kernel
theorem d_Cont_endOf_14 : decode b_Cont_endOf 14 = .ok (.iload_n 2, 1) := by decide +kernel
theorem d_Cont_endOf_15 : decode b_Cont_endOf 15 = .ok (.iconst 0, 1) := by decide +kernel
theorem d_Cont_endOf_16 : decode b_Cont_endOf 16 = .ok (.invokevirtual 52, 3) := by decide +kernel
theorem d_Cont_endOf_19 : decode b_Cont_endOf 19 = .ok (.iconst 5, 1) := by decide +kernel
theorem d_Cont_endOf_20 : decode b_Cont_endOf 20 = .ok (.if_icmp .ne 15, 3) := by decide +kernel
theorem d_Cont_endOf_23 : decode b_Cont_endOf 23 = .ok (.aload_n 0, 1) := by decide +kernel
theorem d_Cont_endOf_24 : decode b_Cont_endOf 24 = .ok (.getfield 32, 3) := by decide +kernel
theorem d_Cont_endOf_27 : decode b_Cont_endOf 27 = .ok (.iload_n 2, 1) := by decide +kernel
theorem d_Cont_endOf_28 : decode b_Cont_endOf 28 = .ok (.iconst 3, 1) := by decide +kernel
theorem d_Cont_endOf_29 : decode b_Cont_endOf 29 = .ok (.invokevirtual 52, 3) := by decide +kernel
theorem d_Cont_endOf_32 : decode b_Cont_endOf 32 = .ok (.goto 4, 3) := by decide +kernel
theorem d_Cont_endOf_35 : decode b_Cont_endOf 35 = .ok (.iload_n 2, 1) := by decide +kernel
theorem d_Cont_endOf_36 : decode b_Cont_endOf 36 = .ok (.ireturn, 1) := by decide +kernel
theorem d_Cont_otherwiseOf_0 : decode b_Cont_otherwiseOf 0 = .ok (.aload_n 0, 1) := by decide +kernel
theorem d_Cont_otherwiseOf_1 : decode b_Cont_otherwiseOf 1 = .ok (.getfield 32, 3) := by decide +kernel
theorem d_Cont_otherwiseOf_4 : decode b_Cont_otherwiseOf 4 = .ok (.iload_n 1, 1) := by decide +kernel
theorem d_Cont_otherwiseOf_5 : decode b_Cont_otherwiseOf 5 = .ok (.iconst 3, 1) := by decide +kernel
theorem d_Cont_otherwiseOf_6 : decode b_Cont_otherwiseOf 6 = .ok (.invokevirtual 52, 3) := by decide +kernel
theorem d_Cont_otherwiseOf_9 : decode b_Cont_otherwiseOf 9 = .ok (.istore_n 2, 1) := by decide +kernel
theorem d_Cont_otherwiseOf_10 : decode b_Cont_otherwiseOf 10 = .ok (.aload_n 0, 1) := by decide +kernel
theorem d_Cont_otherwiseOf_11 : decode b_Cont_otherwiseOf 11 = .ok (.getfield 32, 3) := by decide +kernel
theorem d_Cont_otherwiseOf_14 : decode b_Cont_otherwiseOf 14 = .ok (.iload_n 2, 1) := by decide +kernel
theorem d_Cont_otherwiseOf_15 : decode b_Cont_otherwiseOf 15 = .ok (.iconst 0, 1) := by decide +kernel
theorem d_Cont_otherwiseOf_16 : decode b_Cont_otherwiseOf 16 = .ok (.invokevirtual 52, 3) := by decide +kernel
theorem d_Cont_otherwiseOf_19 : decode b_Cont_otherwiseOf 19 = .ok (.iconst 5, 1) := by decide +kernel
theorem d_Cont_otherwiseOf_20 : decode b_Cont_otherwiseOf 20 = .ok (.if_icmp .ne 9, 3) := by decide +kernel
theorem d_Cont_otherwiseOf_23 : decode b_Cont_otherwiseOf 23 = .ok (.iload_n 2, 1) := by decide +kernel
theorem d_Cont_otherwiseOf_24 : decode b_Cont_otherwiseOf 24 = .ok (.iconst 1, 1) := by decide +kernel
theorem d_Cont_otherwiseOf_25 : decode b_Cont_otherwiseOf 25 = .ok (.iadd, 1) := by decide +kernel
theorem d_Cont_otherwiseOf_26 : decode b_Cont_otherwiseOf 26 = .ok (.goto 4, 3) := by decide +kernel
theorem d_Cont_otherwiseOf_29 : decode b_Cont_otherwiseOf 29 = .ok (.iload_n 2, 1) := by decide +kernel
theorem d_Cont_otherwiseOf_30 : decode b_Cont_otherwiseOf 30 = .ok (.ireturn, 1) := by decide +kernel
theorem d_Cont_labelAt_0 : decode b_Cont_labelAt 0 = .ok (.aload_n 0, 1) := by decide +kernel
theorem d_Cont_labelAt_1 : decode b_Cont_labelAt 1 = .ok (.getfield 32, 3) := by decide +kernel
theorem d_Cont_labelAt_4 : decode b_Cont_labelAt 4 = .ok (.iload_n 1, 1) := by decide +kernel
theorem d_Cont_labelAt_5 : decode b_Cont_labelAt 5 = .ok (.iconst 1, 1) := by decide +kernel
theorem d_Cont_labelAt_6 : decode b_Cont_labelAt 6 = .ok (.invokevirtual 52, 3) := by decide +kernel
theorem d_Cont_labelAt_9 : decode b_Cont_labelAt 9 = .ok (.istore_n 3, 1) := by decide +kernel
theorem d_Cont_labelAt_10 : decode b_Cont_labelAt 10 = .ok (.iload_n 2, 1) := by decide +kernel
theorem d_Cont_labelAt_11 : decode b_Cont_labelAt 11 = .ok (.iload_n 3, 1) := by decide +kernel
theorem d_Cont_labelAt_12 : decode b_Cont_labelAt 12 = .ok (.invokestatic 62, 3) := by decide +kernel
theorem d_Cont_labelAt_15 : decode b_Cont_labelAt 15 = .ok (.ifCond .eq 7, 3) := by decide +kernel
theorem d_Cont_labelAt_18 : decode b_Cont_labelAt 18 = .ok (.iload_n 3, 1) := by decide +kernel
theorem d_Cont_labelAt_19 : decode b_Cont_labelAt 19 = .ok (.goto 4, 3) := by decide +kernel
theorem d_Cont_labelAt_22 : decode b_Cont_labelAt 22 = .ok (.iload_n 2, 1) := by decide +kernel
theorem d_Cont_labelAt_23 : decode b_Cont_labelAt 23 = .ok (.istore 4, 2) := by decide +kernel
theorem d_Cont_labelAt_25 : decode b_Cont_labelAt 25 = .ok (.aload_n 0, 1) := by decide +kernel
theorem d_Cont_labelAt_26 : decode b_Cont_labelAt 26 = .ok (.getfield 35, 3) := by decide +kernel
theorem d_Cont_labelAt_29 : decode b_Cont_labelAt 29 = .ok (.aload_n 0, 1) := by decide +kernel
theorem d_Cont_labelAt_30 : decode b_Cont_labelAt 30 = .ok (.getfield 32, 3) := by decide +kernel
theorem d_Cont_labelAt_33 : decode b_Cont_labelAt 33 = .ok (.iload_n 1, 1) := by decide +kernel
theorem d_Cont_labelAt_34 : decode b_Cont_labelAt 34 = .ok (.iconst 2, 1) := by decide +kernel
theorem d_Cont_labelAt_35 : decode b_Cont_labelAt 35 = .ok (.invokevirtual 52, 3) := by decide +kernel
theorem d_Cont_labelAt_38 : decode b_Cont_labelAt 38 = .ok (.iload 4, 2) := by decide +kernel
theorem d_Cont_labelAt_40 : decode b_Cont_labelAt 40 = .ok (.iadd, 1) := by decide +kernel
theorem d_Cont_labelAt_41 : decode b_Cont_labelAt 41 = .ok (.iconst 0, 1) := by decide +kernel
theorem d_Cont_labelAt_42 : decode b_Cont_labelAt 42 = .ok (.invokevirtual 52, 3) := by decide +kernel
theorem d_Cont_labelAt_45 : decode b_Cont_labelAt 45 = .ok (.ireturn, 1) := by decide +kernel
theorem d_X_isAbove_0 : decode b_X_isAbove 0 = .ok (.iload_n 0, 1) := by decide +kernel
theorem d_X_isAbove_1 : decode b_X_isAbove 1 = .ok (.ifCond .lt 8, 3) := by decide +kernel
theorem d_X_isAbove_4 : decode b_X_isAbove 4 = .ok (.iload_n 0, 1) := by decide +kernel
theorem d_X_isAbove_5 : decode b_X_isAbove 5 = .ok (.iload_n 1, 1) := by decide +kernel
theorem d_X_isAbove_6 : decode b_X_isAbove 6 = .ok (.if_icmp .le 7, 3) := by decide +kernel
theorem d_X_isAbove_9 : decode b_X_isAbove 9 = .ok (.iconst 1, 1) := by decide +kernel
theorem d_X_isAbove_10 : decode b_X_isAbove 10 = .ok (.goto 4, 3) := by decide +kernel
theorem d_X_isAbove_13 : decode b_X_isAbove 13 = .ok (.iconst 0, 1) := by decide +kernel
theorem d_X_isAbove_14 : decode b_X_isAbove 14 = .ok (.ireturn, 1) := by decide +kernel
theorem d_X_feed_0 : decode b_X_feed 0 = .ok (.aload_n 0, 1) := by decide +kernel
theorem d_X_feed_1 : decode b_X_feed 1 = .ok (.getfield 76, 3) := by decide +kernel
theorem d_X_feed_4 : decode b_X_feed 4 = .ok (.ifCond .ne 18, 3) := by decide +kernel
theorem d_X_feed_7 : decode b_X_feed 7 = .ok (.aload_n 0, 1) := by decide +kernel
theorem d_X_feed_8 : decode b_X_feed 8 = .ok (.getfield 21, 3) := by decide +kernel
theorem d_X_feed_11 : decode b_X_feed 11 = .ok (.iload_n 1, 1) := by decide +kernel
theorem d_X_feed_12 : decode b_X_feed 12 = .ok (.invokevirtual 80, 3) := by decide +kernel
theorem d_X_feed_15 : decode b_X_feed 15 = .ok (.ifCond .eq 7, 3) := by decide +kernel
theorem d_X_feed_18 : decode b_X_feed 18 = .ok (.iconst 1, 1) := by decide +kernel
theorem d_X_feed_19 : decode b_X_feed 19 = .ok (.goto 4, 3) := by decide +kernel
theorem d_X_feed_22 : decode b_X_feed 22 = .ok (.iconst 0, 1) := by decide +kernel
theorem d_X_feed_23 : decode b_X_feed 23 = .ok (.ireturn, 1) := by decide +kernel
theorem d_X_load_0 : decode b_X_load 0 = .ok (.aload_n 0, 1) := by decide +kernel
theorem d_X_load_1 : decode b_X_load 1 = .ok (.getfield 76, 3) := by decide +kernel
theorem d_X_load_4 : decode b_X_load 4 = .ok (.ifCond .eq 5, 3) := by decide +kernel
theorem d_X_load_7 : decode b_X_load 7 = .ok (.iconst 5, 1) := by decide +kernel
theorem d_X_load_8 : decode b_X_load 8 = .ok (.ireturn, 1) := by decide +kernel
theorem d_X_load_9 : decode b_X_load 9 = .ok (.aload_n 0, 1) := by decide +kernel
theorem d_X_load_10 : decode b_X_load 10 = .ok (.getfield 21, 3) := by decide +kernel
theorem d_X_load_13 : decode b_X_load 13 = .ok (.invokevirtual 84, 3) := by decide +kernel
theorem d_X_load_16 : decode b_X_load 16 = .ok (.istore_n 1, 1) := by decide +kernel
theorem d_X_load_17 : decode b_X_load 17 = .ok (.iload_n 1, 1) := by decide +kernel
theorem d_X_load_18 : decode b_X_load 18 = .ok (.ifCond .ne 11, 3) := by decide +kernel
theorem d_X_load_21 : decode b_X_load 21 = .ok (.aload_n 0, 1) := by decide +kernel
theorem d_X_load_22 : decode b_X_load 22 = .ok (.getfield 28, 3) := by decide +kernel
theorem d_X_load_25 : decode b_X_load 25 = .ok (.invokevirtual 88, 3) := by decide +kernel
theorem d_X_load_28 : decode b_X_load 28 = .ok (.istore_n 1, 1) := by decide +kernel
theorem d_X_load_29 : decode b_X_load 29 = .ok (.iload_n 1, 1) := by decide +kernel
theorem d_X_load_30 : decode b_X_load 30 = .ok (.ifCond .ne 23, 3) := by decide +kernel
theorem d_X_load_33 : decode b_X_load 33 = .ok (.aload_n 0, 1) := by decide +kernel
theorem d_X_load_34 : decode b_X_load 34 = .ok (.getfield 42, 3) := by decide +kernel
theorem d_X_load_37 : decode b_X_load 37 = .ok (.aload_n 0, 1) := by decide +kernel
theorem d_X_load_38 : decode b_X_load 38 = .ok (.getfield 10, 3) := by decide +kernel
theorem d_X_load_41 : decode b_X_load 41 = .ok (.aload_n 0, 1) := by decide +kernel
theorem d_X_load_42 : decode b_X_load 42 = .ok (.getfield 21, 3) := by decide +kernel
theorem d_X_load_45 : decode b_X_load 45 = .ok (.invokevirtual 91, 3) := by decide +kernel
theorem d_X_load_48 : decode b_X_load 48 = .ok (.aload_n 0, 1) := by decide +kernel
theorem d_X_load_49 : decode b_X_load 49 = .ok (.iconst 1, 1) := by decide +kernel
theorem d_X_load_50 : decode b_X_load 50 = .ok (.putfield 76, 3) := by decide +kernel
theorem d_X_load_53 : decode b_X_load 53 = .ok (.iload_n 1, 1) := by decide +kernel
theorem d_X_load_54 : decode b_X_load 54 = .ok (.ireturn, 1) := by decide +kernel
theorem d_X_compile_0 : decode b_X_compile 0 = .ok (.aload_n 0, 1) := by decide +kernel
theorem d_X_compile_1 : decode b_X_compile 1 = .ok (.getfield 76, 3) := by decide +kernel
theorem d_X_compile_4 : decode b_X_compile 4 = .ok (.ifCond .ne 5, 3) := by decide +kernel
theorem d_X_compile_7 : decode b_X_compile 7 = .ok (.iconst 1, 1) := by decide +kernel
theorem d_X_compile_8 : decode b_X_compile 8 = .ok (.ireturn, 1) := by decide +kernel
theorem d_X_compile_9 : decode b_X_compile 9 = .ok (.aload_n 0, 1) := by decide +kernel
theorem d_X_compile_10 : decode b_X_compile 10 = .ok (.getfield 95, 3) := by decide +kernel
theorem d_X_compile_13 : decode b_X_compile 13 = .ok (.ifCond .ne 15, 3) := by decide +kernel
theorem d_X_compile_16 : decode b_X_compile 16 = .ok (.aload_n 0, 1) := by decide +kernel
theorem d_X_compile_17 : decode b_X_compile 17 = .ok (.getfield 35, 3) := by decide +kernel
theorem d_X_compile_20 : decode b_X_compile 20 = .ok (.invokevirtual 98, 3) := by decide +kernel
theorem d_X_compile_23 : decode b_X_compile 23 = .ok (.aload_n 0, 1) := by decide +kernel
theorem d_X_compile_24 : decode b_X_compile 24 = .ok (.iconst 1, 1) := by decide +kernel
theorem d_X_compile_25 : decode b_X_compile 25 = .ok (.putfield 95, 3) := by decide +kernel
theorem d_X_compile_28 : decode b_X_compile 28 = .ok (.iconst 0, 1) := by decide +kernel
theorem d_X_compile_29 : decode b_X_compile 29 = .ok (.ireturn, 1) := by decide +kernel
theorem d_X_arg_0 : decode b_X_arg 0 = .ok (.aload_n 0, 1) := by decide +kernel
theorem d_X_arg_1 : decode b_X_arg 1 = .ok (.getfield 76, 3) := by decide +kernel
theorem d_X_arg_4 : decode b_X_arg 4 = .ok (.ifCond .eq 19, 3) := by decide +kernel
theorem d_X_arg_7 : decode b_X_arg 7 = .ok (.aload_n 0, 1) := by decide +kernel
theorem d_X_arg_8 : decode b_X_arg 8 = .ok (.getfield 72, 3) := by decide +kernel
theorem d_X_arg_11 : decode b_X_arg 11 = .ok (.iconst (-1), 1) := by decide +kernel
theorem d_X_arg_12 : decode b_X_arg 12 = .ok (.if_icmp .ne 11, 3) := by decide +kernel
theorem d_X_arg_15 : decode b_X_arg 15 = .ok (.aload_n 0, 1) := by decide +kernel
theorem d_X_arg_16 : decode b_X_arg 16 = .ok (.getfield 101, 3) := by decide +kernel
theorem d_X_arg_19 : decode b_X_arg 19 = .ok (.iconst 4, 1) := by decide +kernel
theorem d_X_arg_20 : decode b_X_arg 20 = .ok (.if_icmp .lt 5, 3) := by decide +kernel
theorem d_X_arg_23 : decode b_X_arg 23 = .ok (.iconst 0, 1) := by decide +kernel
theorem d_X_arg_24 : decode b_X_arg 24 = .ok (.ireturn, 1) := by decide +kernel
theorem d_X_arg_25 : decode b_X_arg 25 = .ok (.aload_n 0, 1) := by decide +kernel
theorem d_X_arg_26 : decode b_X_arg 26 = .ok (.getfield 68, 3) := by decide +kernel
theorem d_X_arg_29 : decode b_X_arg 29 = .ok (.aload_n 0, 1) := by decide +kernel
theorem d_X_arg_30 : decode b_X_arg 30 = .ok (.getfield 101, 3) := by decide +kernel
theorem d_X_arg_33 : decode b_X_arg 33 = .ok (.iload_n 1, 1) := by decide +kernel
theorem d_X_arg_34 : decode b_X_arg 34 = .ok (.invokevirtual 104, 3) := by decide +kernel
theorem d_X_arg_37 : decode b_X_arg 37 = .ok (.aload_n 0, 1) := by decide +kernel
theorem d_X_arg_38 : decode b_X_arg 38 = .ok (.dup, 1) := by decide +kernel
theorem d_X_arg_39 : decode b_X_arg 39 = .ok (.getfield 101, 3) := by decide +kernel
theorem d_X_arg_42 : decode b_X_arg 42 = .ok (.iconst 1, 1) := by decide +kernel
theorem d_X_arg_43 : decode b_X_arg 43 = .ok (.iadd, 1) := by decide +kernel
theorem d_X_arg_44 : decode b_X_arg 44 = .ok (.putfield 101, 3) := by decide +kernel
theorem d_X_arg_47 : decode b_X_arg 47 = .ok (.iconst 1, 1) := by decide +kernel
theorem d_X_arg_48 : decode b_X_arg 48 = .ok (.ireturn, 1) := by decide +kernel
theorem d_X_start_0 : decode b_X_start 0 = .ok (.aload_n 0, 1) := by decide +kernel
theorem d_X_start_1 : decode b_X_start 1 = .ok (.getfield 76, 3) := by decide +kernel
theorem d_X_start_4 : decode b_X_start 4 = .ok (.ifCond .eq 11, 3) := by decide +kernel
theorem d_X_start_7 : decode b_X_start 7 = .ok (.aload_n 0, 1) := by decide +kernel
theorem d_X_start_8 : decode b_X_start 8 = .ok (.getfield 72, 3) := by decide +kernel
theorem d_X_start_11 : decode b_X_start 11 = .ok (.iconst (-1), 1) := by decide +kernel
theorem d_X_start_12 : decode b_X_start 12 = .ok (.if_icmp .eq 5, 3) := by decide +kernel
theorem d_X_start_15 : decode b_X_start 15 = .ok (.iconst 1, 1) := by decide +kernel
theorem d_X_start_16 : decode b_X_start 16 = .ok (.ireturn, 1) := by decide +kernel
theorem d_X_start_17 : decode b_X_start 17 = .ok (.aload_n 0, 1) := by decide +kernel
theorem d_X_start_18 : decode b_X_start 18 = .ok (.getfield 10, 3) := by decide +kernel
theorem d_X_start_21 : decode b_X_start 21 = .ok (.getfield 108, 3) := by decide +kernel
theorem d_X_start_24 : decode b_X_start 24 = .ok (.iload_n 1, 1) := by decide +kernel
theorem d_X_start_25 : decode b_X_start 25 = .ok (.invokevirtual 112, 3) := by decide +kernel
theorem d_X_start_28 : decode b_X_start 28 = .ok (.ifCond .ne 5, 3) := by decide +kernel
theorem d_X_start_31 : decode b_X_start 31 = .ok (.iconst 2, 1) := by decide +kernel
theorem d_X_start_32 : decode b_X_start 32 = .ok (.ireturn, 1) := by decide +kernel
theorem d_X_start_33 : decode b_X_start 33 = .ok (.aload_n 0, 1) := by decide +kernel
theorem d_X_start_34 : decode b_X_start 34 = .ok (.getfield 101, 3) := by decide +kernel
theorem d_X_start_37 : decode b_X_start 37 = .ok (.aload_n 0, 1) := by decide +kernel
theorem d_X_start_38 : decode b_X_start 38 = .ok (.getfield 10, 3) := by decide +kernel
theorem d_X_start_41 : decode b_X_start 41 = .ok (.iload_n 1, 1) := by decide +kernel
theorem d_X_start_42 : decode b_X_start 42 = .ok (.invokevirtual 117, 3) := by decide +kernel
theorem d_X_start_45 : decode b_X_start 45 = .ok (.if_icmp .eq 5, 3) := by decide +kernel
theorem d_X_start_48 : decode b_X_start 48 = .ok (.iconst 3, 1) := by decide +kernel
theorem d_X_start_49 : decode b_X_start 49 = .ok (.ireturn, 1) := by decide +kernel
theorem d_X_start_50 : decode b_X_start 50 = .ok (.iload_n 2, 1) := by decide +kernel
theorem d_X_start_51 : decode b_X_start 51 = .ok (.ifCond .eq 17, 3) := by decide +kernel
theorem d_X_start_54 : decode b_X_start 54 = .ok (.iload_n 2, 1) := by decide +kernel
theorem d_X_start_55 : decode b_X_start 55 = .ok (.iconst 1, 1) := by decide +kernel
theorem d_X_start_56 : decode b_X_start 56 = .ok (.if_icmp .ne 10, 3) := by decide +kernel
theorem d_X_start_59 : decode b_X_start 59 = .ok (.aload_n 0, 1) := by decide +kernel
theorem d_X_start_60 : decode b_X_start 60 = .ok (.getfield 95, 3) := by decide +kernel
theorem d_X_start_63 : decode b_X_start 63 = .ok (.ifCond .ne 5, 3) := by decide +kernel
theorem d_X_start_66 : decode b_X_start 66 = .ok (.iconst 4, 1) := by decide +kernel
theorem d_X_start_67 : decode b_X_start 67 = .ok (.ireturn, 1) := by decide +kernel
theorem d_X_start_68 : decode b_X_start 68 = .ok (.aload_n 0, 1) := by decide +kernel
theorem d_X_start_69 : decode b_X_start 69 = .ok (.iload_n 2, 1) := by decide +kernel
theorem d_X_start_70 : decode b_X_start 70 = .ok (.putfield 72, 3) := by decide +kernel
theorem d_X_start_73 : decode b_X_start 73 = .ok (.aload_n 0, 1) := by decide +kernel
theorem d_X_start_74 : decode b_X_start 74 = .ok (.iconst 0, 1) := by decide +kernel
theorem d_X_start_75 : decode b_X_start 75 = .ok (.putfield 121, 3) := by decide +kernel
theorem d_X_start_78 : decode b_X_start 78 = .ok (.aload_n 0, 1) := by decide +kernel
theorem d_X_start_79 : decode b_X_start 79 = .ok (.invokevirtual 124, 3) := by decide +kernel
theorem d_X_start_82 : decode b_X_start 82 = .ok (.iload_n 1, 1) := by decide +kernel
theorem d_X_start_83 : decode b_X_start 83 = .ok (.aload_n 0, 1) := by decide +kernel
theorem d_X_start_84 : decode b_X_start 84 = .ok (.getfield 68, 3) := by decide +kernel
theorem d_X_start_87 : decode b_X_start 87 = .ok (.aload_n 0, 1) := by decide +kernel
theorem d_X_start_88 : decode b_X_start 88 = .ok (.getfield 101, 3) := by decide +kernel
theorem d_X_start_91 : decode b_X_start 91 = .ok (.invokevirtual 128, 3) := by decide +kernel
theorem d_X_start_94 : decode b_X_start 94 = .ok (.aload_n 0, 1) := by decide +kernel
theorem d_X_start_95 : decode b_X_start 95 = .ok (.iconst 0, 1) := by decide +kernel
theorem d_X_start_96 : decode b_X_start 96 = .ok (.putfield 101, 3) := by decide +kernel
theorem d_X_start_99 : decode b_X_start 99 = .ok (.iconst 0, 1) := by decide +kernel
theorem d_X_start_100 : decode b_X_start 100 = .ok (.ireturn, 1) := by decide +kernel
theorem d_X_run_0 : decode b_X_run 0 = .ok (.iload_n 1, 1) := by decide +kernel
theorem d_X_run_1 : decode b_X_run 1 = .ok (.ifCond .lt 11, 3) := by decide +kernel
theorem d_X_run_4 : decode b_X_run 4 = .ok (.aload_n 0, 1) := by decide +kernel
theorem d_X_run_5 : decode b_X_run 5 = .ok (.getfield 72, 3) := by decide +kernel
theorem d_X_run_8 : decode b_X_run 8 = .ok (.iconst (-1), 1) := by decide +kernel
theorem d_X_run_9 : decode b_X_run 9 = .ok (.if_icmp .ne 5, 3) := by decide +kernel
theorem d_X_run_12 : decode b_X_run 12 = .ok (.iconst (-1), 1) := by decide +kernel
theorem d_X_run_13 : decode b_X_run 13 = .ok (.ireturn, 1) := by decide +kernel
theorem d_X_run_14 : decode b_X_run 14 = .ok (.aload_n 0, 1) := by decide +kernel
theorem d_X_run_15 : decode b_X_run 15 = .ok (.invokevirtual 124, 3) := by decide +kernel
theorem d_X_run_18 : decode b_X_run 18 = .ok (.astore_n 2, 1) := by decide +kernel
theorem d_X_run_19 : decode b_X_run 19 = .ok (.aload_n 2, 1) := by decide +kernel
theorem d_X_run_20 : decode b_X_run 20 = .ok (.iload_n 1, 1) := by decide +kernel
theorem d_X_run_21 : decode b_X_run 21 = .ok (.invokevirtual 134, 3) := by decide +kernel
theorem d_X_run_24 : decode b_X_run 24 = .ok (.istore_n 3, 1) := by decide +kernel
theorem d_X_run_25 : decode b_X_run 25 = .ok (.iload_n 3, 1) := by decide +kernel
theorem d_X_run_26 : decode b_X_run 26 = .ok (.ifCond .eq 25, 3) := by decide +kernel
theorem d_X_run_29 : decode b_X_run 29 = .ok (.aload_n 0, 1) := by decide +kernel
theorem d_X_run_30 : decode b_X_run 30 = .ok (.iconst (-1), 1) := by decide +kernel
theorem d_X_run_31 : decode b_X_run 31 = .ok (.putfield 72, 3) := by decide +kernel
theorem d_X_run_34 : decode b_X_run 34 = .ok (.aload_n 0, 1) := by decide +kernel
theorem d_X_run_35 : decode b_X_run 35 = .ok (.iload_n 3, 1) := by decide +kernel
theorem d_X_run_36 : decode b_X_run 36 = .ok (.iconst 1, 1) := by decide +kernel
theorem d_X_run_37 : decode b_X_run 37 = .ok (.if_icmp .ne 10, 3) := by decide +kernel
theorem d_X_run_40 : decode b_X_run 40 = .ok (.aload_n 2, 1) := by decide +kernel
theorem d_X_run_41 : decode b_X_run 41 = .ok (.getfield 137, 3) := by decide +kernel
theorem d_X_run_44 : decode b_X_run 44 = .ok (.goto 4, 3) := by decide +kernel
theorem d_X_run_47 : decode b_X_run 47 = .ok (.iconst 0, 1) := by decide +kernel
theorem d_X_run_48 : decode b_X_run 48 = .ok (.putfield 121, 3) := by decide +kernel
theorem d_X_run_51 : decode b_X_run 51 = .ok (.iload_n 3, 1) := by decide +kernel
theorem d_X_run_52 : decode b_X_run 52 = .ok (.ireturn, 1) := by decide +kernel
theorem d_X_result_0 : decode b_X_result 0 = .ok (.aload_n 0, 1) := by decide +kernel
theorem d_X_result_1 : decode b_X_result 1 = .ok (.getfield 121, 3) := by decide +kernel
theorem d_X_result_4 : decode b_X_result 4 = .ok (.ireturn, 1) := by decide +kernel
theorem d_X_peekMem_0 : decode b_X_peekMem 0 = .ok (.aload_n 0, 1) := by decide +kernel
theorem d_X_peekMem_1 : decode b_X_peekMem 1 = .ok (.getfield 76, 3) := by decide +kernel
theorem d_X_peekMem_4 : decode b_X_peekMem 4 = .ok (.ifCond .eq 21, 3) := by decide +kernel
theorem d_X_peekMem_7 : decode b_X_peekMem 7 = .ok (.iload_n 1, 1) := by decide +kernel
theorem d_X_peekMem_8 : decode b_X_peekMem 8 = .ok (.ifCond .lt 17, 3) := by decide +kernel
theorem d_X_peekMem_11 : decode b_X_peekMem 11 = .ok (.iload_n 1, 1) := by decide +kernel
theorem d_X_peekMem_12 : decode b_X_peekMem 12 = .ok (.aload_n 0, 1) := by decide +kernel
theorem d_X_peekMem_13 : decode b_X_peekMem 13 = .ok (.getfield 42, 3) := by decide +kernel
theorem d_X_peekMem_16 : decode b_X_peekMem 16 = .ok (.getfield 140, 3) := by decide +kernel
theorem d_X_peekMem_19 : decode b_X_peekMem 19 = .ok (.bipush 64, 2) := by decide +kernel
theorem d_X_peekMem_21 : decode b_X_peekMem 21 = .ok (.imul, 1) := by decide +kernel
theorem d_X_peekMem_22 : decode b_X_peekMem 22 = .ok (.if_icmp .lt 5, 3) := by decide +kernel
theorem d_X_peekMem_25 : decode b_X_peekMem 25 = .ok (.iconst (-1), 1) := by decide +kernel
theorem d_X_peekMem_26 : decode b_X_peekMem 26 = .ok (.ireturn, 1) := by decide +kernel
theorem d_X_peekMem_27 : decode b_X_peekMem 27 = .ok (.aload_n 0, 1) := by decide +kernel
theorem d_X_peekMem_28 : decode b_X_peekMem 28 = .ok (.getfield 42, 3) := by decide +kernel
theorem d_X_peekMem_31 : decode b_X_peekMem 31 = .ok (.getfield 143, 3) := by decide +kernel
theorem d_X_peekMem_34 : decode b_X_peekMem 34 = .ok (.iload_n 1, 1) := by decide +kernel
theorem d_X_peekMem_35 : decode b_X_peekMem 35 = .ok (.invokevirtual 146, 3) := by decide +kernel
theorem d_X_peekMem_38 : decode b_X_peekMem 38 = .ok (.ireturn, 1) := by decide +kernel
theorem d_X_rcodeLen_0 : decode b_X_rcodeLen 0 = .ok (.aload_n 0, 1) := by decide +kernel
theorem d_X_rcodeLen_1 : decode b_X_rcodeLen 1 = .ok (.getfield 95, 3) := by decide +kernel
theorem d_X_rcodeLen_4 : decode b_X_rcodeLen 4 = .ok (.ifCond .eq 13, 3) := by decide +kernel
theorem d_X_rcodeLen_7 : decode b_X_rcodeLen 7 = .ok (.aload_n 0, 1) := by decide +kernel
theorem d_X_rcodeLen_8 : decode b_X_rcodeLen 8 = .ok (.getfield 35, 3) := by decide +kernel
theorem d_X_rcodeLen_11 : decode b_X_rcodeLen 11 = .ok (.invokevirtual 149, 3) := by decide +kernel
theorem d_X_rcodeLen_14 : decode b_X_rcodeLen 14 = .ok (.goto 4, 3) := by decide +kernel
theorem d_X_rcodeLen_17 : decode b_X_rcodeLen 17 = .ok (.iconst 0, 1) := by decide +kernel
theorem d_X_rcodeLen_18 : decode b_X_rcodeLen 18 = .ok (.ireturn, 1) := by decide +kernel
theorem d_X_rcode_0 : decode b_X_rcode 0 = .ok (.iload_n 1, 1) := by decide +kernel
theorem d_X_rcode_1 : decode b_X_rcode 1 = .ok (.ifCond .lt 11, 3) := by decide +kernel
theorem d_X_rcode_4 : decode b_X_rcode 4 = .ok (.iload_n 1, 1) := by decide +kernel
theorem d_X_rcode_5 : decode b_X_rcode 5 = .ok (.aload_n 0, 1) := by decide +kernel
theorem d_X_rcode_6 : decode b_X_rcode 6 = .ok (.invokevirtual 152, 3) := by decide +kernel
theorem d_X_rcode_9 : decode b_X_rcode 9 = .ok (.if_icmp .lt 5, 3) := by decide +kernel
theorem d_X_rcode_12 : decode b_X_rcode 12 = .ok (.iconst (-1), 1) := by decide +kernel
theorem d_X_rcode_13 : decode b_X_rcode 13 = .ok (.ireturn, 1) := by decide +kernel
theorem d_X_rcode_14 : decode b_X_rcode 14 = .ok (.aload_n 0, 1) := by decide +kernel
theorem d_X_rcode_15 : decode b_X_rcode 15 = .ok (.getfield 35, 3) := by decide +kernel
theorem d_X_rcode_18 : decode b_X_rcode 18 = .ok (.getfield 155, 3) := by decide +kernel
theorem d_X_rcode_21 : decode b_X_rcode 21 = .ok (.iload_n 1, 1) := by decide +kernel
theorem d_X_rcode_22 : decode b_X_rcode 22 = .ok (.invokevirtual 146, 3) := by decide +kernel
theorem d_X_rcode_25 : decode b_X_rcode 25 = .ok (.ireturn, 1) := by decide +kernel
theorem d_X_reset_0 : decode b_X_reset 0 = .ok (.aload_n 0, 1) := by decide +kernel
theorem d_X_reset_1 : decode b_X_reset 1 = .ok (.getfield 21, 3) := by decide +kernel
theorem d_X_reset_4 : decode b_X_reset 4 = .ok (.invokevirtual 158, 3) := by decide +kernel
theorem d_X_reset_7 : decode b_X_reset 7 = .ok (.aload_n 0, 1) := by decide +kernel
theorem d_X_reset_8 : decode b_X_reset 8 = .ok (.iconst 0, 1) := by decide +kernel
theorem d_X_reset_9 : decode b_X_reset 9 = .ok (.putfield 101, 3) := by decide +kernel
theorem d_X_reset_12 : decode b_X_reset 12 = .ok (.aload_n 0, 1) := by decide +kernel
theorem d_X_reset_13 : decode b_X_reset 13 = .ok (.iconst 0, 1) := by decide +kernel
theorem d_X_reset_14 : decode b_X_reset 14 = .ok (.putfield 76, 3) := by decide +kernel
theorem d_X_reset_17 : decode b_X_reset 17 = .ok (.aload_n 0, 1) := by decide +kernel
theorem d_X_reset_18 : decode b_X_reset 18 = .ok (.iconst 0, 1) := by decide +kernel
theorem d_X_reset_19 : decode b_X_reset 19 = .ok (.putfield 95, 3) := by decide +kernel
theorem d_X_reset_22 : decode b_X_reset 22 = .ok (.aload_n 0, 1) := by decide +kernel
theorem d_X_reset_23 : decode b_X_reset 23 = .ok (.iconst (-1), 1) := by decide +kernel
theorem d_X_reset_24 : decode b_X_reset 24 = .ok (.putfield 72, 3) := by decide +kernel
theorem d_X_reset_27 : decode b_X_reset 27 = .ok (.aload_n 0, 1) := by decide +kernel
theorem d_X_reset_28 : decode b_X_reset 28 = .ok (.iconst 0, 1) := by decide +kernel
theorem d_X_reset_29 : decode b_X_reset 29 = .ok (.putfield 121, 3) := by decide +kernel
theorem d_X_reset_32 : decode b_X_reset 32 = .ok (.return_, 1) := by decide +kernel
theorem d_Rd_append_0 : decode b_Rd_append 0 = .ok (.iload_n 1, 1) := by decide +kernel
theorem d_Rd_append_1 : decode b_Rd_append 1 = .ok (.ifCond .lt 29, 3) := by decide +kernel
theorem d_Rd_append_4 : decode b_Rd_append 4 = .ok (.iload_n 1, 1) := by decide +kernel
theorem d_Rd_append_5 : decode b_Rd_append 5 = .ok (.sipush 255, 3) := by decide +kernel
theorem d_Rd_append_8 : decode b_Rd_append 8 = .ok (.if_icmp .gt 22, 3) := by decide +kernel
theorem d_Rd_append_11 : decode b_Rd_append 11 = .ok (.aload_n 0, 1) := by decide +kernel
theorem d_Rd_append_12 : decode b_Rd_append 12 = .ok (.getfield 28, 3) := by decide +kernel
theorem d_Rd_append_15 : decode b_Rd_append 15 = .ok (.ifCond .lt 15, 3) := by decide +kernel
theorem d_Rd_append_18 : decode b_Rd_append 18 = .ok (.aload_n 0, 1) := by decide +kernel
theorem d_Rd_append_19 : decode b_Rd_append 19 = .ok (.getfield 28, 3) := by decide +kernel
theorem d_Rd_append_22 : decode b_Rd_append 22 = .ok (.aload_n 0, 1) := by decide +kernel
theorem d_Rd_append_23 : decode b_Rd_append 23 = .ok (.getfield 9, 3) := by decide +kernel
theorem d_Rd_append_26 : decode b_Rd_append 26 = .ok (.arraylength, 1) := by decide +kernel
theorem d_Rd_append_27 : decode b_Rd_append 27 = .ok (.if_icmp .lt 5, 3) := by decide +kernel
theorem d_Rd_append_30 : decode b_Rd_append 30 = .ok (.iconst 0, 1) := by decide +kernel
theorem d_Rd_append_31 : decode b_Rd_append 31 = .ok (.ireturn, 1) := by decide +kernel
theorem d_Rd_append_32 : decode b_Rd_append 32 = .ok (.aload_n 0, 1) := by decide +kernel
theorem d_Rd_append_33 : decode b_Rd_append 33 = .ok (.getfield 9, 3) := by decide +kernel
theorem d_Rd_append_36 : decode b_Rd_append 36 = .ok (.aload_n 0, 1) := by decide +kernel
theorem d_Rd_append_37 : decode b_Rd_append 37 = .ok (.getfield 28, 3) := by decide +kernel
theorem d_Rd_append_40 : decode b_Rd_append 40 = .ok (.iload_n 1, 1) := by decide +kernel
theorem d_Rd_append_41 : decode b_Rd_append 41 = .ok (.iastore, 1) := by decide +kernel
theorem d_Rd_append_42 : decode b_Rd_append 42 = .ok (.aload_n 0, 1) := by decide +kernel
theorem d_Rd_append_43 : decode b_Rd_append 43 = .ok (.dup, 1) := by decide +kernel
theorem d_Rd_append_44 : decode b_Rd_append 44 = .ok (.getfield 28, 3) := by decide +kernel
theorem d_Rd_append_47 : decode b_Rd_append 47 = .ok (.iconst 1, 1) := by decide +kernel
theorem d_Rd_append_48 : decode b_Rd_append 48 = .ok (.iadd, 1) := by decide +kernel
theorem d_Rd_append_49 : decode b_Rd_append 49 = .ok (.putfield 28, 3) := by decide +kernel
theorem d_Rd_append_52 : decode b_Rd_append 52 = .ok (.iconst 1, 1) := by decide +kernel
theorem d_Rd_append_53 : decode b_Rd_append 53 = .ok (.ireturn, 1) := by decide +kernel
theorem d_Rd_forget_0 : decode b_Rd_forget 0 = .ok (.aload_n 0, 1) := by decide +kernel
theorem d_Rd_forget_1 : decode b_Rd_forget 1 = .ok (.iconst 0, 1) := by decide +kernel
theorem d_Rd_forget_2 : decode b_Rd_forget 2 = .ok (.putfield 28, 3) := by decide +kernel
theorem d_Rd_forget_5 : decode b_Rd_forget 5 = .ok (.return_, 1) := by decide +kernel
theorem d_Rd_byteAt_0 : decode b_Rd_byteAt 0 = .ok (.iload_n 1, 1) := by decide +kernel
theorem d_Rd_byteAt_1 : decode b_Rd_byteAt 1 = .ok (.ifCond .lt 21, 3) := by decide +kernel
theorem d_Rd_byteAt_4 : decode b_Rd_byteAt 4 = .ok (.iload_n 1, 1) := by decide +kernel
theorem d_Rd_byteAt_5 : decode b_Rd_byteAt 5 = .ok (.aload_n 0, 1) := by decide +kernel
theorem d_Rd_byteAt_6 : decode b_Rd_byteAt 6 = .ok (.getfield 9, 3) := by decide +kernel
theorem d_Rd_byteAt_9 : decode b_Rd_byteAt 9 = .ok (.arraylength, 1) := by decide +kernel
theorem d_Rd_byteAt_10 : decode b_Rd_byteAt 10 = .ok (.if_icmp .ge 12, 3) := by decide +kernel
theorem d_Rd_byteAt_13 : decode b_Rd_byteAt 13 = .ok (.aload_n 0, 1) := by decide +kernel
theorem d_Rd_byteAt_14 : decode b_Rd_byteAt 14 = .ok (.getfield 9, 3) := by decide +kernel
theorem d_Rd_byteAt_17 : decode b_Rd_byteAt 17 = .ok (.iload_n 1, 1) := by decide +kernel
theorem d_Rd_byteAt_18 : decode b_Rd_byteAt 18 = .ok (.iaload, 1) := by decide +kernel
theorem d_Rd_byteAt_19 : decode b_Rd_byteAt 19 = .ok (.goto 4, 3) := by decide +kernel
theorem d_Rd_byteAt_22 : decode b_Rd_byteAt 22 = .ok (.iconst 0, 1) := by decide +kernel
theorem d_Rd_byteAt_23 : decode b_Rd_byteAt 23 = .ok (.ireturn, 1) := by decide +kernel
theorem d_Rd_nextByte_0 : decode b_Rd_nextByte 0 = .ok (.aload_n 0, 1) := by decide +kernel
theorem d_Rd_nextByte_1 : decode b_Rd_nextByte 1 = .ok (.getfield 46, 3) := by decide +kernel
theorem d_Rd_nextByte_4 : decode b_Rd_nextByte 4 = .ok (.ifCond .ne 33, 3) := by decide +kernel
theorem d_Rd_nextByte_7 : decode b_Rd_nextByte 7 = .ok (.aload_n 0, 1) := by decide +kernel
theorem d_Rd_nextByte_8 : decode b_Rd_nextByte 8 = .ok (.getfield 37, 3) := by decide +kernel
theorem d_Rd_nextByte_11 : decode b_Rd_nextByte 11 = .ok (.ifCond .lt 26, 3) := by decide +kernel
theorem d_Rd_nextByte_14 : decode b_Rd_nextByte 14 = .ok (.aload_n 0, 1) := by decide +kernel
theorem d_Rd_nextByte_15 : decode b_Rd_nextByte 15 = .ok (.getfield 37, 3) := by decide +kernel
theorem d_Rd_nextByte_18 : decode b_Rd_nextByte 18 = .ok (.aload_n 0, 1) := by decide +kernel
theorem d_Rd_nextByte_19 : decode b_Rd_nextByte 19 = .ok (.getfield 40, 3) := by decide +kernel
theorem d_Rd_nextByte_22 : decode b_Rd_nextByte 22 = .ok (.if_icmp .ge 15, 3) := by decide +kernel
theorem d_Rd_nextByte_25 : decode b_Rd_nextByte 25 = .ok (.aload_n 0, 1) := by decide +kernel
theorem d_Rd_nextByte_26 : decode b_Rd_nextByte 26 = .ok (.getfield 37, 3) := by decide +kernel
theorem d_Rd_nextByte_29 : decode b_Rd_nextByte 29 = .ok (.aload_n 0, 1) := by decide +kernel
theorem d_Rd_nextByte_30 : decode b_Rd_nextByte 30 = .ok (.getfield 9, 3) := by decide +kernel
theorem d_Rd_nextByte_33 : decode b_Rd_nextByte 33 = .ok (.arraylength, 1) := by decide +kernel
theorem d_Rd_nextByte_34 : decode b_Rd_nextByte 34 = .ok (.if_icmp .lt 24, 3) := by decide +kernel
theorem d_Rd_nextByte_37 : decode b_Rd_nextByte 37 = .ok (.aload_n 0, 1) := by decide +kernel
theorem d_Rd_nextByte_38 : decode b_Rd_nextByte 38 = .ok (.aload_n 0, 1) := by decide +kernel
theorem d_Rd_nextByte_39 : decode b_Rd_nextByte 39 = .ok (.getfield 46, 3) := by decide +kernel
theorem d_Rd_nextByte_42 : decode b_Rd_nextByte 42 = .ok (.ifCond .eq 10, 3) := by decide +kernel
theorem d_Rd_nextByte_45 : decode b_Rd_nextByte 45 = .ok (.aload_n 0, 1) := by decide +kernel
theorem d_Rd_nextByte_46 : decode b_Rd_nextByte 46 = .ok (.getfield 46, 3) := by decide +kernel
theorem d_Rd_nextByte_49 : decode b_Rd_nextByte 49 = .ok (.goto 4, 3) := by decide +kernel
theorem d_Rd_nextByte_52 : decode b_Rd_nextByte 52 = .ok (.iconst 1, 1) := by decide +kernel
theorem d_Rd_nextByte_53 : decode b_Rd_nextByte 53 = .ok (.putfield 46, 3) := by decide +kernel
theorem d_Rd_nextByte_56 : decode b_Rd_nextByte 56 = .ok (.iconst 0, 1) := by decide +kernel
theorem d_Rd_nextByte_57 : decode b_Rd_nextByte 57 = .ok (.ireturn, 1) := by decide +kernel
theorem d_Rd_nextByte_58 : decode b_Rd_nextByte 58 = .ok (.aload_n 0, 1) := by decide +kernel
theorem d_Rd_nextByte_59 : decode b_Rd_nextByte 59 = .ok (.dup, 1) := by decide +kernel
theorem d_Rd_nextByte_60 : decode b_Rd_nextByte 60 = .ok (.getfield 37, 3) := by decide +kernel
theorem d_Rd_nextByte_63 : decode b_Rd_nextByte 63 = .ok (.iconst 1, 1) := by decide +kernel
theorem d_Rd_nextByte_64 : decode b_Rd_nextByte 64 = .ok (.iadd, 1) := by decide +kernel
theorem d_Rd_nextByte_65 : decode b_Rd_nextByte 65 = .ok (.putfield 37, 3) := by decide +kernel
theorem d_Rd_nextByte_68 : decode b_Rd_nextByte 68 = .ok (.aload_n 0, 1) := by decide +kernel
theorem d_Rd_nextByte_69 : decode b_Rd_nextByte 69 = .ok (.getfield 9, 3) := by decide +kernel
theorem d_Rd_nextByte_72 : decode b_Rd_nextByte 72 = .ok (.aload_n 0, 1) := by decide +kernel
theorem d_Rd_nextByte_73 : decode b_Rd_nextByte 73 = .ok (.getfield 37, 3) := by decide +kernel
theorem d_Rd_nextByte_76 : decode b_Rd_nextByte 76 = .ok (.iconst 1, 1) := by decide +kernel
theorem d_Rd_nextByte_77 : decode b_Rd_nextByte 77 = .ok (.isub, 1) := by decide +kernel
theorem d_Rd_nextByte_78 : decode b_Rd_nextByte 78 = .ok (.iaload, 1) := by decide +kernel
theorem d_Rd_nextByte_79 : decode b_Rd_nextByte 79 = .ok (.ireturn, 1) := by decide +kernel
theorem d_Rd_refuse_0 : decode b_Rd_refuse 0 = .ok (.aload_n 0, 1) := by decide +kernel
theorem d_Rd_refuse_1 : decode b_Rd_refuse 1 = .ok (.aload_n 0, 1) := by decide +kernel
theorem d_Rd_refuse_2 : decode b_Rd_refuse 2 = .ok (.getfield 46, 3) := by decide +kernel
theorem d_Rd_refuse_5 : decode b_Rd_refuse 5 = .ok (.ifCond .eq 10, 3) := by decide +kernel
theorem d_Rd_refuse_8 : decode b_Rd_refuse 8 = .ok (.aload_n 0, 1) := by decide +kernel
theorem d_Rd_refuse_9 : decode b_Rd_refuse 9 = .ok (.getfield 46, 3) := by decide +kernel
theorem d_Rd_refuse_12 : decode b_Rd_refuse 12 = .ok (.goto 4, 3) := by decide +kernel
theorem d_Rd_refuse_15 : decode b_Rd_refuse 15 = .ok (.iload_n 1, 1) := by decide +kernel
theorem d_Rd_refuse_16 : decode b_Rd_refuse 16 = .ok (.putfield 46, 3) := by decide +kernel
theorem d_Rd_refuse_19 : decode b_Rd_refuse 19 = .ok (.return_, 1) := by decide +kernel
theorem d_Rd_expect_0 : decode b_Rd_expect 0 = .ok (.aload_n 0, 1) := by decide +kernel
theorem d_Rd_expect_1 : decode b_Rd_expect 1 = .ok (.invokevirtual 55, 3) := by decide +kernel
theorem d_Rd_expect_4 : decode b_Rd_expect 4 = .ok (.iload_n 1, 1) := by decide +kernel
theorem d_Rd_expect_5 : decode b_Rd_expect 5 = .ok (.if_icmp .eq 8, 3) := by decide +kernel
theorem d_Rd_expect_8 : decode b_Rd_expect 8 = .ok (.aload_n 0, 1) := by decide +kernel
theorem d_Rd_expect_9 : decode b_Rd_expect 9 = .ok (.iconst 1, 1) := by decide +kernel
theorem d_Rd_expect_10 : decode b_Rd_expect 10 = .ok (.invokevirtual 75, 3) := by decide +kernel
theorem d_Rd_expect_13 : decode b_Rd_expect 13 = .ok (.return_, 1) := by decide +kernel
theorem d_Rd_mostOf_0 : decode b_Rd_mostOf 0 = .ok (.iload_n 0, 1) := by decide +kernel
theorem d_Rd_mostOf_1 : decode b_Rd_mostOf 1 = .ok (.tableswitch 74 1 11 #[59, 74, 62, 74, 65, 67, 69, 74, 74, 62, 72], 59) := by decide +kernel
theorem d_Rd_mostOf_60 : decode b_Rd_mostOf 60 = .ok (.bipush 8, 2) := by decide +kernel
theorem d_Rd_mostOf_62 : decode b_Rd_mostOf 62 = .ok (.ireturn, 1) := by decide +kernel
theorem d_Rd_mostOf_63 : decode b_Rd_mostOf 63 = .ok (.bipush 8, 2) := by decide +kernel
theorem d_Rd_mostOf_65 : decode b_Rd_mostOf 65 = .ok (.ireturn, 1) := by decide +kernel
theorem d_Rd_mostOf_66 : decode b_Rd_mostOf 66 = .ok (.iconst 1, 1) := by decide +kernel
theorem d_Rd_mostOf_67 : decode b_Rd_mostOf 67 = .ok (.ireturn, 1) := by decide +kernel
theorem d_Rd_mostOf_68 : decode b_Rd_mostOf 68 = .ok (.iconst 4, 1) := by decide +kernel
theorem d_Rd_mostOf_69 : decode b_Rd_mostOf 69 = .ok (.ireturn, 1) := by decide +kernel
theorem d_Rd_mostOf_70 : decode b_Rd_mostOf 70 = .ok (.bipush 8, 2) := by decide +kernel
theorem d_Rd_mostOf_72 : decode b_Rd_mostOf 72 = .ok (.ireturn, 1) := by decide +kernel
theorem d_Rd_mostOf_73 : decode b_Rd_mostOf 73 = .ok (.iconst 4, 1) := by decide +kernel
theorem d_Rd_mostOf_74 : decode b_Rd_mostOf 74 = .ok (.ireturn, 1) := by decide +kernel
theorem d_Rd_mostOf_75 : decode b_Rd_mostOf 75 = .ok (.iconst 0, 1) := by decide +kernel
theorem d_Rd_mostOf_76 : decode b_Rd_mostOf 76 = .ok (.ireturn, 1) := by decide +kernel
theorem d_Rd_judgeSection_0 : decode b_Rd_judgeSection 0 = .ok (.iload_n 1, 1) := by decide +kernel
theorem d_Rd_judgeSection_1 : decode b_Rd_judgeSection 1 = .ok (.bipush 11, 2) := by decide +kernel
theorem d_Rd_judgeSection_3 : decode b_Rd_judgeSection 3 = .ok (.if_icmp .gt 8, 3) := by decide +kernel
theorem d_Rd_judgeSection_6 : decode b_Rd_judgeSection 6 = .ok (.iload_n 1, 1) := by decide +kernel
theorem d_Rd_judgeSection_7 : decode b_Rd_judgeSection 7 = .ok (.iload_n 2, 1) := by decide +kernel
theorem d_Rd_judgeSection_8 : decode b_Rd_judgeSection 8 = .ok (.if_icmp .gt 11, 3) := by decide +kernel
theorem d_Rd_judgeSection_11 : decode b_Rd_judgeSection 11 = .ok (.aload_n 0, 1) := by decide +kernel
theorem d_Rd_judgeSection_12 : decode b_Rd_judgeSection 12 = .ok (.iconst 1, 1) := by decide +kernel
theorem d_Rd_judgeSection_13 : decode b_Rd_judgeSection 13 = .ok (.invokevirtual 75, 3) := by decide +kernel
theorem d_Rd_judgeSection_16 : decode b_Rd_judgeSection 16 = .ok (.goto 15, 3) := by decide +kernel
theorem d_Rd_judgeSection_19 : decode b_Rd_judgeSection 19 = .ok (.iload_n 1, 1) := by decide +kernel
theorem d_Rd_judgeSection_20 : decode b_Rd_judgeSection 20 = .ok (.invokestatic 78, 3) := by decide +kernel
theorem d_Rd_judgeSection_23 : decode b_Rd_judgeSection 23 = .ok (.ifCond .ne 8, 3) := by decide +kernel
theorem d_Rd_judgeSection_26 : decode b_Rd_judgeSection 26 = .ok (.aload_n 0, 1) := by decide +kernel
theorem d_Rd_judgeSection_27 : decode b_Rd_judgeSection 27 = .ok (.iconst 2, 1) := by decide +kernel
theorem d_Rd_judgeSection_28 : decode b_Rd_judgeSection 28 = .ok (.invokevirtual 75, 3) := by decide +kernel
theorem d_Rd_judgeSection_31 : decode b_Rd_judgeSection 31 = .ok (.return_, 1) := by decide +kernel
theorem d_Rd_nextUnsigned_0 : decode b_Rd_nextUnsigned 0 = .ok (.iconst 0, 1) := by decide +kernel
theorem d_Rd_nextUnsigned_1 : decode b_Rd_nextUnsigned 1 = .ok (.istore_n 1, 1) := by decide +kernel
theorem d_Rd_nextUnsigned_2 : decode b_Rd_nextUnsigned 2 = .ok (.iconst 0, 1) := by decide +kernel
theorem d_Rd_nextUnsigned_3 : decode b_Rd_nextUnsigned 3 = .ok (.istore_n 2, 1) := by decide +kernel
theorem d_Rd_nextUnsigned_4 : decode b_Rd_nextUnsigned 4 = .ok (.iload_n 2, 1) := by decide +kernel
theorem d_Rd_nextUnsigned_5 : decode b_Rd_nextUnsigned 5 = .ok (.iconst 5, 1) := by decide +kernel
theorem d_Rd_nextUnsigned_6 : decode b_Rd_nextUnsigned 6 = .ok (.if_icmp .ge 51, 3) := by decide +kernel
theorem d_Rd_nextUnsigned_9 : decode b_Rd_nextUnsigned 9 = .ok (.aload_n 0, 1) := by decide +kernel
theorem d_Rd_nextUnsigned_10 : decode b_Rd_nextUnsigned 10 = .ok (.invokevirtual 55, 3) := by decide +kernel
theorem d_Rd_nextUnsigned_13 : decode b_Rd_nextUnsigned 13 = .ok (.istore_n 3, 1) := by decide +kernel
theorem d_Rd_nextUnsigned_14 : decode b_Rd_nextUnsigned 14 = .ok (.iload_n 1, 1) := by decide +kernel
theorem d_Rd_nextUnsigned_15 : decode b_Rd_nextUnsigned 15 = .ok (.iload_n 3, 1) := by decide +kernel
theorem d_Rd_nextUnsigned_16 : decode b_Rd_nextUnsigned 16 = .ok (.bipush 127, 2) := by decide +kernel
theorem d_Rd_nextUnsigned_18 : decode b_Rd_nextUnsigned 18 = .ok (.iand, 1) := by decide +kernel
theorem d_Rd_nextUnsigned_19 : decode b_Rd_nextUnsigned 19 = .ok (.bipush 7, 2) := by decide +kernel
theorem d_Rd_nextUnsigned_21 : decode b_Rd_nextUnsigned 21 = .ok (.iload_n 2, 1) := by decide +kernel
theorem d_Rd_nextUnsigned_22 : decode b_Rd_nextUnsigned 22 = .ok (.imul, 1) := by decide +kernel
theorem d_Rd_nextUnsigned_23 : decode b_Rd_nextUnsigned 23 = .ok (.ishl, 1) := by decide +kernel
theorem d_Rd_nextUnsigned_24 : decode b_Rd_nextUnsigned 24 = .ok (.ior, 1) := by decide +kernel
theorem d_Rd_nextUnsigned_25 : decode b_Rd_nextUnsigned 25 = .ok (.istore_n 1, 1) := by decide +kernel
theorem d_Rd_nextUnsigned_26 : decode b_Rd_nextUnsigned 26 = .ok (.iload_n 2, 1) := by decide +kernel
theorem d_Rd_nextUnsigned_27 : decode b_Rd_nextUnsigned 27 = .ok (.iconst 4, 1) := by decide +kernel
theorem d_Rd_nextUnsigned_28 : decode b_Rd_nextUnsigned 28 = .ok (.if_icmp .ne 14, 3) := by decide +kernel
theorem d_Rd_nextUnsigned_31 : decode b_Rd_nextUnsigned 31 = .ok (.iload_n 3, 1) := by decide +kernel
theorem d_Rd_nextUnsigned_32 : decode b_Rd_nextUnsigned 32 = .ok (.bipush 15, 2) := by decide +kernel
theorem d_Rd_nextUnsigned_34 : decode b_Rd_nextUnsigned 34 = .ok (.if_icmp .le 8, 3) := by decide +kernel
theorem d_Rd_nextUnsigned_37 : decode b_Rd_nextUnsigned 37 = .ok (.aload_n 0, 1) := by decide +kernel
theorem d_Rd_nextUnsigned_38 : decode b_Rd_nextUnsigned 38 = .ok (.iconst 1, 1) := by decide +kernel
theorem d_Rd_nextUnsigned_39 : decode b_Rd_nextUnsigned 39 = .ok (.invokevirtual 75, 3) := by decide +kernel
theorem d_Rd_nextUnsigned_42 : decode b_Rd_nextUnsigned 42 = .ok (.iload_n 3, 1) := by decide +kernel
theorem d_Rd_nextUnsigned_43 : decode b_Rd_nextUnsigned 43 = .ok (.sipush 128, 3) := by decide +kernel
theorem d_Rd_nextUnsigned_46 : decode b_Rd_nextUnsigned 46 = .ok (.if_icmp .ge 5, 3) := by decide +kernel
theorem d_Rd_nextUnsigned_49 : decode b_Rd_nextUnsigned 49 = .ok (.iload_n 1, 1) := by decide +kernel
theorem d_Rd_nextUnsigned_50 : decode b_Rd_nextUnsigned 50 = .ok (.ireturn, 1) := by decide +kernel
theorem d_Rd_nextUnsigned_51 : decode b_Rd_nextUnsigned 51 = .ok (.iinc 2 1, 3) := by decide +kernel
theorem d_Rd_nextUnsigned_54 : decode b_Rd_nextUnsigned 54 = .ok (.goto (-50), 3) := by decide +kernel
theorem d_Rd_nextUnsigned_57 : decode b_Rd_nextUnsigned 57 = .ok (.iload_n 1, 1) := by decide +kernel
theorem d_Rd_nextUnsigned_58 : decode b_Rd_nextUnsigned 58 = .ok (.ireturn, 1) := by decide +kernel
theorem d_Rd_nextEnd_0 : decode b_Rd_nextEnd 0 = .ok (.aload_n 0, 1) := by decide +kernel
theorem d_Rd_nextEnd_1 : decode b_Rd_nextEnd 1 = .ok (.invokevirtual 85, 3) := by decide +kernel
theorem d_Rd_nextEnd_4 : decode b_Rd_nextEnd 4 = .ok (.istore_n 1, 1) := by decide +kernel
theorem d_Rd_nextEnd_5 : decode b_Rd_nextEnd 5 = .ok (.iload_n 1, 1) := by decide +kernel
theorem d_Rd_nextEnd_6 : decode b_Rd_nextEnd 6 = .ok (.aload_n 0, 1) := by decide +kernel
theorem d_Rd_nextEnd_7 : decode b_Rd_nextEnd 7 = .ok (.getfield 40, 3) := by decide +kernel
theorem d_Rd_nextEnd_10 : decode b_Rd_nextEnd 10 = .ok (.aload_n 0, 1) := by decide +kernel
theorem d_Rd_nextEnd_11 : decode b_Rd_nextEnd 11 = .ok (.getfield 37, 3) := by decide +kernel
theorem d_Rd_nextEnd_14 : decode b_Rd_nextEnd 14 = .ok (.isub, 1) := by decide +kernel
theorem d_Rd_nextEnd_15 : decode b_Rd_nextEnd 15 = .ok (.invokestatic 88, 3) := by decide +kernel
theorem d_Rd_nextEnd_18 : decode b_Rd_nextEnd 18 = .ok (.ifCond .eq 13, 3) := by decide +kernel
theorem d_Rd_nextEnd_21 : decode b_Rd_nextEnd 21 = .ok (.aload_n 0, 1) := by decide +kernel
theorem d_Rd_nextEnd_22 : decode b_Rd_nextEnd 22 = .ok (.iconst 1, 1) := by decide +kernel
theorem d_Rd_nextEnd_23 : decode b_Rd_nextEnd 23 = .ok (.invokevirtual 75, 3) := by decide +kernel
theorem d_Rd_nextEnd_26 : decode b_Rd_nextEnd 26 = .ok (.aload_n 0, 1) := by decide +kernel
theorem d_Rd_nextEnd_27 : decode b_Rd_nextEnd 27 = .ok (.getfield 37, 3) := by decide +kernel
theorem d_Rd_nextEnd_30 : decode b_Rd_nextEnd 30 = .ok (.ireturn, 1) := by decide +kernel
theorem d_Rd_nextEnd_31 : decode b_Rd_nextEnd 31 = .ok (.aload_n 0, 1) := by decide +kernel
theorem d_Rd_nextEnd_32 : decode b_Rd_nextEnd 32 = .ok (.getfield 37, 3) := by decide +kernel
theorem d_Rd_nextEnd_35 : decode b_Rd_nextEnd 35 = .ok (.iload_n 1, 1) := by decide +kernel
theorem d_Rd_nextEnd_36 : decode b_Rd_nextEnd 36 = .ok (.iadd, 1) := by decide +kernel
theorem d_Rd_nextEnd_37 : decode b_Rd_nextEnd 37 = .ok (.ireturn, 1) := by decide +kernel
theorem d_Rd_readValueType_0 : decode b_Rd_readValueType 0 = .ok (.aload_n 0, 1) := by decide +kernel
theorem d_Rd_readValueType_1 : decode b_Rd_readValueType 1 = .ok (.invokevirtual 55, 3) := by decide +kernel
theorem d_Rd_readValueType_4 : decode b_Rd_readValueType 4 = .ok (.bipush 127, 2) := by decide +kernel
theorem d_Rd_readValueType_6 : decode b_Rd_readValueType 6 = .ok (.if_icmp .eq 8, 3) := by decide +kernel
theorem d_Rd_readValueType_9 : decode b_Rd_readValueType 9 = .ok (.aload_n 0, 1) := by decide +kernel
theorem d_Rd_readValueType_10 : decode b_Rd_readValueType 10 = .ok (.iconst 2, 1) := by decide +kernel
theorem d_Rd_readValueType_11 : decode b_Rd_readValueType 11 = .ok (.invokevirtual 75, 3) := by decide +kernel
theorem d_Rd_readValueType_14 : decode b_Rd_readValueType 14 = .ok (.return_, 1) := by decide +kernel
theorem d_Rd_readLocals_0 : decode b_Rd_readLocals 0 = .ok (.aload_n 0, 1) := by decide +kernel
theorem d_Rd_readLocals_1 : decode b_Rd_readLocals 1 = .ok (.getfield 24, 3) := by decide +kernel
theorem d_Rd_readLocals_4 : decode b_Rd_readLocals 4 = .ok (.iload_n 1, 1) := by decide +kernel
theorem d_Rd_readLocals_5 : decode b_Rd_readLocals 5 = .ok (.invokevirtual 170, 3) := by decide +kernel
theorem d_Rd_readLocals_8 : decode b_Rd_readLocals 8 = .ok (.istore_n 2, 1) := by decide +kernel
theorem d_Rd_readLocals_9 : decode b_Rd_readLocals 9 = .ok (.aload_n 0, 1) := by decide +kernel
theorem d_Rd_readLocals_10 : decode b_Rd_readLocals 10 = .ok (.invokevirtual 85, 3) := by decide +kernel
theorem d_Rd_readLocals_13 : decode b_Rd_readLocals 13 = .ok (.istore_n 3, 1) := by decide +kernel
theorem d_Rd_readLocals_14 : decode b_Rd_readLocals 14 = .ok (.iload_n 3, 1) := by decide +kernel
theorem d_Rd_readLocals_15 : decode b_Rd_readLocals 15 = .ok (.sipush 240, 3) := by decide +kernel
theorem d_Rd_readLocals_18 : decode b_Rd_readLocals 18 = .ok (.invokestatic 88, 3) := by decide +kernel
theorem d_Rd_readLocals_21 : decode b_Rd_readLocals 21 = .ok (.ifCond .eq 9, 3) := by decide +kernel
theorem d_Rd_readLocals_24 : decode b_Rd_readLocals 24 = .ok (.sipush 240, 3) := by decide +kernel
theorem d_Rd_readLocals_27 : decode b_Rd_readLocals 27 = .ok (.goto 4, 3) := by decide +kernel
theorem d_Rd_readLocals_30 : decode b_Rd_readLocals 30 = .ok (.iload_n 3, 1) := by decide +kernel
theorem d_Rd_readLocals_31 : decode b_Rd_readLocals 31 = .ok (.istore 4, 2) := by decide +kernel
theorem d_Rd_readLocals_33 : decode b_Rd_readLocals 33 = .ok (.iconst 0, 1) := by decide +kernel
theorem d_Rd_readLocals_34 : decode b_Rd_readLocals 34 = .ok (.istore 5, 2) := by decide +kernel
theorem d_Rd_readLocals_36 : decode b_Rd_readLocals 36 = .ok (.iload 5, 2) := by decide +kernel
theorem d_Rd_readLocals_38 : decode b_Rd_readLocals 38 = .ok (.iload 4, 2) := by decide +kernel
theorem d_Rd_readLocals_40 : decode b_Rd_readLocals 40 = .ok (.if_icmp .ge 48, 3) := by decide +kernel
theorem d_Rd_readLocals_43 : decode b_Rd_readLocals 43 = .ok (.aload_n 0, 1) := by decide +kernel
theorem d_Rd_readLocals_44 : decode b_Rd_readLocals 44 = .ok (.getfield 46, 3) := by decide +kernel
theorem d_Rd_readLocals_47 : decode b_Rd_readLocals 47 = .ok (.ifCond .ne 41, 3) := by decide +kernel
theorem d_Rd_readLocals_50 : decode b_Rd_readLocals 50 = .ok (.aload_n 0, 1) := by decide +kernel
theorem d_Rd_readLocals_51 : decode b_Rd_readLocals 51 = .ok (.invokevirtual 85, 3) := by decide +kernel
theorem d_Rd_readLocals_54 : decode b_Rd_readLocals 54 = .ok (.istore 6, 2) := by decide +kernel
theorem d_Rd_readLocals_56 : decode b_Rd_readLocals 56 = .ok (.iload 6, 2) := by decide +kernel
theorem d_Rd_readLocals_58 : decode b_Rd_readLocals 58 = .ok (.bipush 12, 2) := by decide +kernel
theorem d_Rd_readLocals_60 : decode b_Rd_readLocals 60 = .ok (.iload_n 2, 1) := by decide +kernel
theorem d_Rd_readLocals_61 : decode b_Rd_readLocals 61 = .ok (.isub, 1) := by decide +kernel
theorem d_Rd_readLocals_62 : decode b_Rd_readLocals 62 = .ok (.invokestatic 88, 3) := by decide +kernel
theorem d_Rd_readLocals_65 : decode b_Rd_readLocals 65 = .ok (.ifCond .eq 8, 3) := by decide +kernel
theorem d_Rd_readLocals_68 : decode b_Rd_readLocals 68 = .ok (.aload_n 0, 1) := by decide +kernel
theorem d_Rd_readLocals_69 : decode b_Rd_readLocals 69 = .ok (.iconst 2, 1) := by decide +kernel
theorem d_Rd_readLocals_70 : decode b_Rd_readLocals 70 = .ok (.invokevirtual 75, 3) := by decide +kernel
theorem d_Rd_readLocals_73 : decode b_Rd_readLocals 73 = .ok (.iload_n 2, 1) := by decide +kernel
theorem d_Rd_readLocals_74 : decode b_Rd_readLocals 74 = .ok (.iload 6, 2) := by decide +kernel
theorem d_Rd_readLocals_76 : decode b_Rd_readLocals 76 = .ok (.iadd, 1) := by decide +kernel
theorem d_Rd_readLocals_77 : decode b_Rd_readLocals 77 = .ok (.istore_n 2, 1) := by decide +kernel
theorem d_Rd_readLocals_78 : decode b_Rd_readLocals 78 = .ok (.aload_n 0, 1) := by decide +kernel
theorem d_Rd_readLocals_79 : decode b_Rd_readLocals 79 = .ok (.invokevirtual 123, 3) := by decide +kernel
theorem d_Rd_readLocals_82 : decode b_Rd_readLocals 82 = .ok (.iinc 5 1, 3) := by decide +kernel
theorem d_Rd_readLocals_85 : decode b_Rd_readLocals 85 = .ok (.goto (-49), 3) := by decide +kernel
theorem d_Rd_readLocals_88 : decode b_Rd_readLocals 88 = .ok (.aload_n 0, 1) := by decide +kernel
theorem d_Rd_readLocals_89 : decode b_Rd_readLocals 89 = .ok (.getfield 24, 3) := by decide +kernel
theorem d_Rd_readLocals_92 : decode b_Rd_readLocals 92 = .ok (.getfield 66, 3) := by decide +kernel
theorem d_Rd_readLocals_95 : decode b_Rd_readLocals 95 = .ok (.iload_n 1, 1) := by decide +kernel
theorem d_Rd_readLocals_96 : decode b_Rd_readLocals 96 = .ok (.iconst 1, 1) := by decide +kernel
theorem d_Rd_readLocals_97 : decode b_Rd_readLocals 97 = .ok (.iload_n 2, 1) := by decide +kernel
theorem d_Rd_readLocals_98 : decode b_Rd_readLocals 98 = .ok (.invokevirtual 98, 3) := by decide +kernel
theorem d_Rd_readLocals_101 : decode b_Rd_readLocals 101 = .ok (.return_, 1) := by decide +kernel
theorem d_Rd_openBlock_0 : decode b_Rd_openBlock 0 = .ok (.aload_n 0, 1) := by decide +kernel
theorem d_Rd_openBlock_1 : decode b_Rd_openBlock 1 = .ok (.invokevirtual 55, 3) := by decide +kernel
theorem d_Rd_openBlock_4 : decode b_Rd_openBlock 4 = .ok (.istore_n 2, 1) := by decide +kernel
theorem d_Rd_openBlock_5 : decode b_Rd_openBlock 5 = .ok (.iload_n 2, 1) := by decide +kernel
theorem d_Rd_openBlock_6 : decode b_Rd_openBlock 6 = .ok (.bipush 127, 2) := by decide +kernel
theorem d_Rd_openBlock_8 : decode b_Rd_openBlock 8 = .ok (.if_icmp .eq 9, 3) := by decide +kernel
theorem d_Rd_openBlock_11 : decode b_Rd_openBlock 11 = .ok (.iload_n 2, 1) := by decide +kernel
theorem d_Rd_openBlock_12 : decode b_Rd_openBlock 12 = .ok (.bipush 64, 2) := by decide +kernel
theorem d_Rd_openBlock_14 : decode b_Rd_openBlock 14 = .ok (.if_icmp .ne 12, 3) := by decide +kernel
theorem d_Rd_openBlock_17 : decode b_Rd_openBlock 17 = .ok (.aload_n 0, 1) := by decide +kernel
theorem d_Rd_openBlock_18 : decode b_Rd_openBlock 18 = .ok (.getfield 164, 3) := by decide +kernel
theorem d_Rd_openBlock_21 : decode b_Rd_openBlock 21 = .ok (.bipush 10, 2) := by decide +kernel
theorem d_Rd_openBlock_23 : decode b_Rd_openBlock 23 = .ok (.if_icmp .le 8, 3) := by decide +kernel
theorem d_Rd_openBlock_26 : decode b_Rd_openBlock 26 = .ok (.aload_n 0, 1) := by decide +kernel
theorem d_Rd_openBlock_27 : decode b_Rd_openBlock 27 = .ok (.iconst 2, 1) := by decide +kernel
theorem d_Rd_openBlock_28 : decode b_Rd_openBlock 28 = .ok (.invokevirtual 75, 3) := by decide +kernel
theorem d_Rd_openBlock_31 : decode b_Rd_openBlock 31 = .ok (.aload_n 0, 1) := by decide +kernel
theorem d_Rd_openBlock_32 : decode b_Rd_openBlock 32 = .ok (.getfield 24, 3) := by decide +kernel
theorem d_Rd_openBlock_35 : decode b_Rd_openBlock 35 = .ok (.getfield 159, 3) := by decide +kernel
theorem d_Rd_openBlock_38 : decode b_Rd_openBlock 38 = .ok (.iload_n 1, 1) := by decide +kernel
theorem d_Rd_openBlock_39 : decode b_Rd_openBlock 39 = .ok (.iconst 1, 1) := by decide +kernel
theorem d_Rd_openBlock_40 : decode b_Rd_openBlock 40 = .ok (.iload_n 2, 1) := by decide +kernel
theorem d_Rd_openBlock_41 : decode b_Rd_openBlock 41 = .ok (.invokevirtual 98, 3) := by decide +kernel
theorem d_Rd_openBlock_44 : decode b_Rd_openBlock 44 = .ok (.aload_n 0, 1) := by decide +kernel
theorem d_Rd_openBlock_45 : decode b_Rd_openBlock 45 = .ok (.getfield 20, 3) := by decide +kernel
theorem d_Rd_openBlock_48 : decode b_Rd_openBlock 48 = .ok (.aload_n 0, 1) := by decide +kernel
theorem d_Rd_openBlock_49 : decode b_Rd_openBlock 49 = .ok (.getfield 164, 3) := by decide +kernel
theorem d_Rd_openBlock_52 : decode b_Rd_openBlock 52 = .ok (.iload_n 1, 1) := by decide +kernel
theorem d_Rd_openBlock_53 : decode b_Rd_openBlock 53 = .ok (.invokevirtual 162, 3) := by decide +kernel
theorem d_Rd_openBlock_56 : decode b_Rd_openBlock 56 = .ok (.aload_n 0, 1) := by decide +kernel
theorem d_Rd_openBlock_57 : decode b_Rd_openBlock 57 = .ok (.dup, 1) := by decide +kernel
theorem d_Rd_openBlock_58 : decode b_Rd_openBlock 58 = .ok (.getfield 164, 3) := by decide +kernel
theorem d_Rd_openBlock_61 : decode b_Rd_openBlock 61 = .ok (.iconst 1, 1) := by decide +kernel
theorem d_Rd_openBlock_62 : decode b_Rd_openBlock 62 = .ok (.iadd, 1) := by decide +kernel
theorem d_Rd_openBlock_63 : decode b_Rd_openBlock 63 = .ok (.putfield 164, 3) := by decide +kernel
theorem d_Rd_openBlock_66 : decode b_Rd_openBlock 66 = .ok (.return_, 1) := by decide +kernel
