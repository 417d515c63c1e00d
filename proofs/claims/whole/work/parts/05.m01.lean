theorem d_M_feed_0 : decode b_M_feed 0 = .ok (.aload_n 0, 1) := by decide +kernel
theorem d_M_feed_1 : decode b_M_feed 1 = .ok (.iconst 0, 1) := by decide +kernel
theorem d_M_feed_2 : decode b_M_feed 2 = .ok (.putfield 120, 3) := by decide +kernel
theorem d_M_feed_5 : decode b_M_feed 5 = .ok (.aload_n 0, 1) := by decide +kernel
theorem d_M_feed_6 : decode b_M_feed 6 = .ok (.getfield 127, 3) := by decide +kernel
theorem d_M_feed_9 : decode b_M_feed 9 = .ok (.ifCond .ne 24, 3) := by decide +kernel
theorem d_M_feed_12 : decode b_M_feed 12 = .ok (.iload_n 1, 1) := by decide +kernel
theorem d_M_feed_13 : decode b_M_feed 13 = .ok (.ifCond .lt 20, 3) := by decide +kernel
theorem d_M_feed_16 : decode b_M_feed 16 = .ok (.iload_n 1, 1) := by decide +kernel
theorem d_M_feed_17 : decode b_M_feed 17 = .ok (.sipush 255, 3) := by decide +kernel
theorem d_M_feed_20 : decode b_M_feed 20 = .ok (.if_icmp .gt 13, 3) := by decide +kernel
theorem d_M_feed_23 : decode b_M_feed 23 = .ok (.aload_n 0, 1) := by decide +kernel
theorem d_M_feed_24 : decode b_M_feed 24 = .ok (.getfield 124, 3) := by decide +kernel
theorem d_M_feed_27 : decode b_M_feed 27 = .ok (.sipush 240, 3) := by decide +kernel
theorem d_M_feed_30 : decode b_M_feed 30 = .ok (.if_icmp .ne 5, 3) := by decide +kernel
theorem d_M_feed_33 : decode b_M_feed 33 = .ok (.iconst 0, 1) := by decide +kernel
theorem d_M_feed_34 : decode b_M_feed 34 = .ok (.ireturn, 1) := by decide +kernel
theorem d_M_feed_35 : decode b_M_feed 35 = .ok (.aload_n 0, 1) := by decide +kernel
theorem d_M_feed_36 : decode b_M_feed 36 = .ok (.getfield 7, 3) := by decide +kernel
theorem d_M_feed_39 : decode b_M_feed 39 = .ok (.aload_n 0, 1) := by decide +kernel
theorem d_M_feed_40 : decode b_M_feed 40 = .ok (.getfield 124, 3) := by decide +kernel
theorem d_M_feed_43 : decode b_M_feed 43 = .ok (.iload_n 1, 1) := by decide +kernel
theorem d_M_feed_44 : decode b_M_feed 44 = .ok (.iastore, 1) := by decide +kernel
theorem d_M_feed_45 : decode b_M_feed 45 = .ok (.aload_n 0, 1) := by decide +kernel
theorem d_M_feed_46 : decode b_M_feed 46 = .ok (.dup, 1) := by decide +kernel
theorem d_M_feed_47 : decode b_M_feed 47 = .ok (.getfield 124, 3) := by decide +kernel
theorem d_M_feed_50 : decode b_M_feed 50 = .ok (.iconst 1, 1) := by decide +kernel
theorem d_M_feed_51 : decode b_M_feed 51 = .ok (.iadd, 1) := by decide +kernel
theorem d_M_feed_52 : decode b_M_feed 52 = .ok (.putfield 124, 3) := by decide +kernel
theorem d_M_feed_55 : decode b_M_feed 55 = .ok (.iconst 1, 1) := by decide +kernel
theorem d_M_feed_56 : decode b_M_feed 56 = .ok (.ireturn, 1) := by decide +kernel
theorem d_M_will_0 : decode b_M_will 0 = .ok (.aload_n 0, 1) := by decide +kernel
theorem d_M_will_1 : decode b_M_will 1 = .ok (.getfield 149, 3) := by decide +kernel
theorem d_M_will_4 : decode b_M_will 4 = .ok (.ifCond .ne 12, 3) := by decide +kernel
theorem d_M_will_7 : decode b_M_will 7 = .ok (.iload_n 1, 1) := by decide +kernel
theorem d_M_will_8 : decode b_M_will 8 = .ok (.ifCond .ne 8, 3) := by decide +kernel
theorem d_M_will_11 : decode b_M_will 11 = .ok (.aload_n 0, 1) := by decide +kernel
theorem d_M_will_12 : decode b_M_will 12 = .ok (.iload_n 2, 1) := by decide +kernel
theorem d_M_will_13 : decode b_M_will 13 = .ok (.putfield 149, 3) := by decide +kernel
theorem d_M_will_16 : decode b_M_will 16 = .ok (.return_, 1) := by decide +kernel
theorem d_M_next_0 : decode b_M_next 0 = .ok (.aload_n 0, 1) := by decide +kernel
theorem d_M_next_1 : decode b_M_next 1 = .ok (.aload_n 0, 1) := by decide +kernel
theorem d_M_next_2 : decode b_M_next 2 = .ok (.getfield 152, 3) := by decide +kernel
theorem d_M_next_5 : decode b_M_next 5 = .ok (.aload_n 0, 1) := by decide +kernel
theorem d_M_next_6 : decode b_M_next 6 = .ok (.getfield 155, 3) := by decide +kernel
theorem d_M_next_9 : decode b_M_next 9 = .ok (.if_icmp .ge 7, 3) := by decide +kernel
theorem d_M_next_12 : decode b_M_next 12 = .ok (.iconst 1, 1) := by decide +kernel
theorem d_M_next_13 : decode b_M_next 13 = .ok (.goto 4, 3) := by decide +kernel
theorem d_M_next_16 : decode b_M_next 16 = .ok (.iconst 0, 1) := by decide +kernel
theorem d_M_next_17 : decode b_M_next 17 = .ok (.iconst 1, 1) := by decide +kernel
theorem d_M_next_18 : decode b_M_next 18 = .ok (.invokevirtual 158, 3) := by decide +kernel
theorem d_M_next_21 : decode b_M_next 21 = .ok (.aload_n 0, 1) := by decide +kernel
theorem d_M_next_22 : decode b_M_next 22 = .ok (.getfield 149, 3) := by decide +kernel
theorem d_M_next_25 : decode b_M_next 25 = .ok (.ifCond .le 5, 3) := by decide +kernel
theorem d_M_next_28 : decode b_M_next 28 = .ok (.iconst 0, 1) := by decide +kernel
theorem d_M_next_29 : decode b_M_next 29 = .ok (.ireturn, 1) := by decide +kernel
theorem d_M_next_30 : decode b_M_next 30 = .ok (.aload_n 0, 1) := by decide +kernel
theorem d_M_next_31 : decode b_M_next 31 = .ok (.dup, 1) := by decide +kernel
theorem d_M_next_32 : decode b_M_next 32 = .ok (.getfield 152, 3) := by decide +kernel
theorem d_M_next_35 : decode b_M_next 35 = .ok (.iconst 1, 1) := by decide +kernel
theorem d_M_next_36 : decode b_M_next 36 = .ok (.iadd, 1) := by decide +kernel
theorem d_M_next_37 : decode b_M_next 37 = .ok (.putfield 152, 3) := by decide +kernel
theorem d_M_next_40 : decode b_M_next 40 = .ok (.aload_n 0, 1) := by decide +kernel
theorem d_M_next_41 : decode b_M_next 41 = .ok (.getfield 7, 3) := by decide +kernel
theorem d_M_next_44 : decode b_M_next 44 = .ok (.aload_n 0, 1) := by decide +kernel
theorem d_M_next_45 : decode b_M_next 45 = .ok (.getfield 152, 3) := by decide +kernel
theorem d_M_next_48 : decode b_M_next 48 = .ok (.iconst 1, 1) := by decide +kernel
theorem d_M_next_49 : decode b_M_next 49 = .ok (.isub, 1) := by decide +kernel
theorem d_M_next_50 : decode b_M_next 50 = .ok (.iaload, 1) := by decide +kernel
theorem d_M_next_51 : decode b_M_next 51 = .ok (.ireturn, 1) := by decide +kernel
theorem d_M_exactly_0 : decode b_M_exactly 0 = .ok (.aload_n 0, 1) := by decide +kernel
theorem d_M_exactly_1 : decode b_M_exactly 1 = .ok (.invokevirtual 162, 3) := by decide +kernel
theorem d_M_exactly_4 : decode b_M_exactly 4 = .ok (.istore_n 2, 1) := by decide +kernel
theorem d_M_exactly_5 : decode b_M_exactly 5 = .ok (.aload_n 0, 1) := by decide +kernel
theorem d_M_exactly_6 : decode b_M_exactly 6 = .ok (.iload_n 2, 1) := by decide +kernel
theorem d_M_exactly_7 : decode b_M_exactly 7 = .ok (.iload_n 1, 1) := by decide +kernel
theorem d_M_exactly_8 : decode b_M_exactly 8 = .ok (.if_icmp .ne 7, 3) := by decide +kernel
theorem d_M_exactly_11 : decode b_M_exactly 11 = .ok (.iconst 1, 1) := by decide +kernel
theorem d_M_exactly_12 : decode b_M_exactly 12 = .ok (.goto 4, 3) := by decide +kernel
theorem d_M_exactly_15 : decode b_M_exactly 15 = .ok (.iconst 0, 1) := by decide +kernel
theorem d_M_exactly_16 : decode b_M_exactly 16 = .ok (.iconst 1, 1) := by decide +kernel
theorem d_M_exactly_17 : decode b_M_exactly 17 = .ok (.invokevirtual 158, 3) := by decide +kernel
theorem d_M_exactly_20 : decode b_M_exactly 20 = .ok (.return_, 1) := by decide +kernel
theorem d_M_unsigned_0 : decode b_M_unsigned 0 = .ok (.lconst 0, 1) := by decide +kernel
theorem d_M_unsigned_1 : decode b_M_unsigned 1 = .ok (.lstore_n 1, 1) := by decide +kernel
theorem d_M_unsigned_2 : decode b_M_unsigned 2 = .ok (.iconst 1, 1) := by decide +kernel
theorem d_M_unsigned_3 : decode b_M_unsigned 3 = .ok (.istore_n 3, 1) := by decide +kernel
theorem d_M_unsigned_4 : decode b_M_unsigned 4 = .ok (.iconst 0, 1) := by decide +kernel
theorem d_M_unsigned_5 : decode b_M_unsigned 5 = .ok (.istore 4, 2) := by decide +kernel
theorem d_M_unsigned_7 : decode b_M_unsigned 7 = .ok (.iload 4, 2) := by decide +kernel
theorem d_M_unsigned_9 : decode b_M_unsigned 9 = .ok (.iconst 5, 1) := by decide +kernel
theorem d_M_unsigned_10 : decode b_M_unsigned 10 = .ok (.if_icmp .ge 77, 3) := by decide +kernel
theorem d_M_unsigned_13 : decode b_M_unsigned 13 = .ok (.iload_n 3, 1) := by decide +kernel
theorem d_M_unsigned_14 : decode b_M_unsigned 14 = .ok (.ifCond .eq 73, 3) := by decide +kernel
theorem d_M_unsigned_17 : decode b_M_unsigned 17 = .ok (.aload_n 0, 1) := by decide +kernel
theorem d_M_unsigned_18 : decode b_M_unsigned 18 = .ok (.getfield 149, 3) := by decide +kernel
theorem d_M_unsigned_21 : decode b_M_unsigned 21 = .ok (.ifCond .ne 66, 3) := by decide +kernel
theorem d_M_unsigned_24 : decode b_M_unsigned 24 = .ok (.aload_n 0, 1) := by decide +kernel
theorem d_M_unsigned_25 : decode b_M_unsigned 25 = .ok (.invokevirtual 162, 3) := by decide +kernel
theorem d_M_unsigned_28 : decode b_M_unsigned 28 = .ok (.istore 5, 2) := by decide +kernel
theorem d_M_unsigned_30 : decode b_M_unsigned 30 = .ok (.aload_n 0, 1) := by decide +kernel
theorem d_M_unsigned_31 : decode b_M_unsigned 31 = .ok (.iload 4, 2) := by decide +kernel
theorem d_M_unsigned_33 : decode b_M_unsigned 33 = .ok (.iconst 4, 1) := by decide +kernel
theorem d_M_unsigned_34 : decode b_M_unsigned 34 = .ok (.if_icmp .lt 10, 3) := by decide +kernel
theorem d_M_unsigned_37 : decode b_M_unsigned 37 = .ok (.iload 5, 2) := by decide +kernel
theorem d_M_unsigned_39 : decode b_M_unsigned 39 = .ok (.bipush 16, 2) := by decide +kernel
theorem d_M_unsigned_41 : decode b_M_unsigned 41 = .ok (.if_icmp .ge 7, 3) := by decide +kernel
theorem d_M_unsigned_44 : decode b_M_unsigned 44 = .ok (.iconst 1, 1) := by decide +kernel
theorem d_M_unsigned_45 : decode b_M_unsigned 45 = .ok (.goto 4, 3) := by decide +kernel
theorem d_M_unsigned_48 : decode b_M_unsigned 48 = .ok (.iconst 0, 1) := by decide +kernel
theorem d_M_unsigned_49 : decode b_M_unsigned 49 = .ok (.iconst 1, 1) := by decide +kernel
theorem d_M_unsigned_50 : decode b_M_unsigned 50 = .ok (.invokevirtual 158, 3) := by decide +kernel
theorem d_M_unsigned_53 : decode b_M_unsigned 53 = .ok (.lload_n 1, 1) := by decide +kernel
theorem d_M_unsigned_54 : decode b_M_unsigned 54 = .ok (.iload 5, 2) := by decide +kernel
theorem d_M_unsigned_56 : decode b_M_unsigned 56 = .ok (.bipush 127, 2) := by decide +kernel
theorem d_M_unsigned_58 : decode b_M_unsigned 58 = .ok (.iand, 1) := by decide +kernel
theorem d_M_unsigned_59 : decode b_M_unsigned 59 = .ok (.i2l, 1) := by decide +kernel
theorem d_M_unsigned_60 : decode b_M_unsigned 60 = .ok (.bipush 7, 2) := by decide +kernel
theorem d_M_unsigned_62 : decode b_M_unsigned 62 = .ok (.iload 4, 2) := by decide +kernel
theorem d_M_unsigned_64 : decode b_M_unsigned 64 = .ok (.imul, 1) := by decide +kernel
theorem d_M_unsigned_65 : decode b_M_unsigned 65 = .ok (.lshl, 1) := by decide +kernel
theorem d_M_unsigned_66 : decode b_M_unsigned 66 = .ok (.lor, 1) := by decide +kernel
theorem d_M_unsigned_67 : decode b_M_unsigned 67 = .ok (.lstore_n 1, 1) := by decide +kernel
theorem d_M_unsigned_68 : decode b_M_unsigned 68 = .ok (.iload 5, 2) := by decide +kernel
theorem d_M_unsigned_70 : decode b_M_unsigned 70 = .ok (.bipush 127, 2) := by decide +kernel
theorem d_M_unsigned_72 : decode b_M_unsigned 72 = .ok (.if_icmp .le 7, 3) := by decide +kernel
theorem d_M_unsigned_75 : decode b_M_unsigned 75 = .ok (.iconst 1, 1) := by decide +kernel
theorem d_M_unsigned_76 : decode b_M_unsigned 76 = .ok (.goto 4, 3) := by decide +kernel
theorem d_M_unsigned_79 : decode b_M_unsigned 79 = .ok (.iconst 0, 1) := by decide +kernel
theorem d_M_unsigned_80 : decode b_M_unsigned 80 = .ok (.istore_n 3, 1) := by decide +kernel
theorem d_M_unsigned_81 : decode b_M_unsigned 81 = .ok (.iinc 4 1, 3) := by decide +kernel
theorem d_M_unsigned_84 : decode b_M_unsigned 84 = .ok (.goto (-77), 3) := by decide +kernel
theorem d_M_unsigned_87 : decode b_M_unsigned 87 = .ok (.lload_n 1, 1) := by decide +kernel
theorem d_M_unsigned_88 : decode b_M_unsigned 88 = .ok (.lreturn, 1) := by decide +kernel
theorem d_M_ahead_0 : decode b_M_ahead 0 = .ok (.aload_n 0, 1) := by decide +kernel
theorem d_M_ahead_1 : decode b_M_ahead 1 = .ok (.invokevirtual 168, 3) := by decide +kernel
theorem d_M_ahead_4 : decode b_M_ahead 4 = .ok (.lstore_n 1, 1) := by decide +kernel
theorem d_M_ahead_5 : decode b_M_ahead 5 = .ok (.aload_n 0, 1) := by decide +kernel
theorem d_M_ahead_6 : decode b_M_ahead 6 = .ok (.lload_n 1, 1) := by decide +kernel
theorem d_M_ahead_7 : decode b_M_ahead 7 = .ok (.aload_n 0, 1) := by decide +kernel
theorem d_M_ahead_8 : decode b_M_ahead 8 = .ok (.getfield 155, 3) := by decide +kernel
theorem d_M_ahead_11 : decode b_M_ahead 11 = .ok (.aload_n 0, 1) := by decide +kernel
theorem d_M_ahead_12 : decode b_M_ahead 12 = .ok (.getfield 152, 3) := by decide +kernel
theorem d_M_ahead_15 : decode b_M_ahead 15 = .ok (.isub, 1) := by decide +kernel
theorem d_M_ahead_16 : decode b_M_ahead 16 = .ok (.i2l, 1) := by decide +kernel
theorem d_M_ahead_17 : decode b_M_ahead 17 = .ok (.lcmp, 1) := by decide +kernel
theorem d_M_ahead_18 : decode b_M_ahead 18 = .ok (.ifCond .gt 7, 3) := by decide +kernel
theorem d_M_ahead_21 : decode b_M_ahead 21 = .ok (.iconst 1, 1) := by decide +kernel
theorem d_M_ahead_22 : decode b_M_ahead 22 = .ok (.goto 4, 3) := by decide +kernel
theorem d_M_ahead_25 : decode b_M_ahead 25 = .ok (.iconst 0, 1) := by decide +kernel
theorem d_M_ahead_26 : decode b_M_ahead 26 = .ok (.iconst 1, 1) := by decide +kernel
theorem d_M_ahead_27 : decode b_M_ahead 27 = .ok (.invokevirtual 158, 3) := by decide +kernel
theorem d_M_ahead_30 : decode b_M_ahead 30 = .ok (.aload_n 0, 1) := by decide +kernel
theorem d_M_ahead_31 : decode b_M_ahead 31 = .ok (.getfield 149, 3) := by decide +kernel
theorem d_M_ahead_34 : decode b_M_ahead 34 = .ok (.ifCond .le 10, 3) := by decide +kernel
theorem d_M_ahead_37 : decode b_M_ahead 37 = .ok (.aload_n 0, 1) := by decide +kernel
theorem d_M_ahead_38 : decode b_M_ahead 38 = .ok (.getfield 155, 3) := by decide +kernel
theorem d_M_ahead_41 : decode b_M_ahead 41 = .ok (.goto 10, 3) := by decide +kernel
theorem d_M_ahead_44 : decode b_M_ahead 44 = .ok (.aload_n 0, 1) := by decide +kernel
theorem d_M_ahead_45 : decode b_M_ahead 45 = .ok (.getfield 152, 3) := by decide +kernel
theorem d_M_ahead_48 : decode b_M_ahead 48 = .ok (.lload_n 1, 1) := by decide +kernel
theorem d_M_ahead_49 : decode b_M_ahead 49 = .ok (.l2i, 1) := by decide +kernel
theorem d_M_ahead_50 : decode b_M_ahead 50 = .ok (.iadd, 1) := by decide +kernel
theorem d_M_ahead_51 : decode b_M_ahead 51 = .ok (.ireturn, 1) := by decide +kernel
theorem d_M_count_0 : decode b_M_count 0 = .ok (.aload_n 0, 1) := by decide +kernel
theorem d_M_count_1 : decode b_M_count 1 = .ok (.invokevirtual 168, 3) := by decide +kernel
theorem d_M_count_4 : decode b_M_count 4 = .ok (.lstore_n 2, 1) := by decide +kernel
theorem d_M_count_5 : decode b_M_count 5 = .ok (.aload_n 0, 1) := by decide +kernel
theorem d_M_count_6 : decode b_M_count 6 = .ok (.lload_n 2, 1) := by decide +kernel
theorem d_M_count_7 : decode b_M_count 7 = .ok (.iload_n 1, 1) := by decide +kernel
theorem d_M_count_8 : decode b_M_count 8 = .ok (.i2l, 1) := by decide +kernel
theorem d_M_count_9 : decode b_M_count 9 = .ok (.lcmp, 1) := by decide +kernel
theorem d_M_count_10 : decode b_M_count 10 = .ok (.ifCond .gt 7, 3) := by decide +kernel
theorem d_M_count_13 : decode b_M_count 13 = .ok (.iconst 1, 1) := by decide +kernel
theorem d_M_count_14 : decode b_M_count 14 = .ok (.goto 4, 3) := by decide +kernel
theorem d_M_count_17 : decode b_M_count 17 = .ok (.iconst 0, 1) := by decide +kernel
theorem d_M_count_18 : decode b_M_count 18 = .ok (.iconst 2, 1) := by decide +kernel
theorem d_M_count_19 : decode b_M_count 19 = .ok (.invokevirtual 158, 3) := by decide +kernel
theorem d_M_count_22 : decode b_M_count 22 = .ok (.aload_n 0, 1) := by decide +kernel
theorem d_M_count_23 : decode b_M_count 23 = .ok (.getfield 149, 3) := by decide +kernel
theorem d_M_count_26 : decode b_M_count 26 = .ok (.ifCond .le 7, 3) := by decide +kernel
theorem d_M_count_29 : decode b_M_count 29 = .ok (.iconst 0, 1) := by decide +kernel
theorem d_M_count_30 : decode b_M_count 30 = .ok (.goto 5, 3) := by decide +kernel
theorem d_M_count_33 : decode b_M_count 33 = .ok (.lload_n 2, 1) := by decide +kernel
theorem d_M_count_34 : decode b_M_count 34 = .ok (.l2i, 1) := by decide +kernel
theorem d_M_count_35 : decode b_M_count 35 = .ok (.ireturn, 1) := by decide +kernel
theorem d_M_value_0 : decode b_M_value 0 = .ok (.aload_n 0, 1) := by decide +kernel
theorem d_M_value_1 : decode b_M_value 1 = .ok (.invokevirtual 162, 3) := by decide +kernel
theorem d_M_value_4 : decode b_M_value 4 = .ok (.istore_n 1, 1) := by decide +kernel
theorem d_M_value_5 : decode b_M_value 5 = .ok (.aload_n 0, 1) := by decide +kernel
theorem d_M_value_6 : decode b_M_value 6 = .ok (.iload_n 1, 1) := by decide +kernel
theorem d_M_value_7 : decode b_M_value 7 = .ok (.bipush 127, 2) := by decide +kernel
theorem d_M_value_9 : decode b_M_value 9 = .ok (.if_icmp .ne 7, 3) := by decide +kernel
theorem d_M_value_12 : decode b_M_value 12 = .ok (.iconst 1, 1) := by decide +kernel
theorem d_M_value_13 : decode b_M_value 13 = .ok (.goto 4, 3) := by decide +kernel
theorem d_M_value_16 : decode b_M_value 16 = .ok (.iconst 0, 1) := by decide +kernel
theorem d_M_value_17 : decode b_M_value 17 = .ok (.iconst 2, 1) := by decide +kernel
theorem d_M_value_18 : decode b_M_value 18 = .ok (.invokevirtual 158, 3) := by decide +kernel
theorem d_M_value_21 : decode b_M_value 21 = .ok (.return_, 1) := by decide +kernel
theorem d_M_readTypes_0 : decode b_M_readTypes 0 = .ok (.aload_n 0, 1) := by decide +kernel
theorem d_M_readTypes_1 : decode b_M_readTypes 1 = .ok (.bipush 8, 2) := by decide +kernel
theorem d_M_readTypes_3 : decode b_M_readTypes 3 = .ok (.invokevirtual 212, 3) := by decide +kernel
theorem d_M_readTypes_6 : decode b_M_readTypes 6 = .ok (.istore_n 1, 1) := by decide +kernel
theorem d_M_readTypes_7 : decode b_M_readTypes 7 = .ok (.iconst 0, 1) := by decide +kernel
theorem d_M_readTypes_8 : decode b_M_readTypes 8 = .ok (.istore_n 2, 1) := by decide +kernel
theorem d_M_readTypes_9 : decode b_M_readTypes 9 = .ok (.iload_n 2, 1) := by decide +kernel
theorem d_M_readTypes_10 : decode b_M_readTypes 10 = .ok (.iload_n 1, 1) := by decide +kernel
theorem d_M_readTypes_11 : decode b_M_readTypes 11 = .ok (.if_icmp .ge 88, 3) := by decide +kernel
theorem d_M_readTypes_14 : decode b_M_readTypes 14 = .ok (.aload_n 0, 1) := by decide +kernel
theorem d_M_readTypes_15 : decode b_M_readTypes 15 = .ok (.getfield 149, 3) := by decide +kernel
theorem d_M_readTypes_18 : decode b_M_readTypes 18 = .ok (.ifCond .ne 81, 3) := by decide +kernel
theorem d_M_readTypes_21 : decode b_M_readTypes 21 = .ok (.aload_n 0, 1) := by decide +kernel
theorem d_M_readTypes_22 : decode b_M_readTypes 22 = .ok (.bipush 96, 2) := by decide +kernel
theorem d_M_readTypes_24 : decode b_M_readTypes 24 = .ok (.invokevirtual 172, 3) := by decide +kernel
theorem d_M_readTypes_27 : decode b_M_readTypes 27 = .ok (.aload_n 0, 1) := by decide +kernel
theorem d_M_readTypes_28 : decode b_M_readTypes 28 = .ok (.getfield 13, 3) := by decide +kernel
theorem d_M_readTypes_31 : decode b_M_readTypes 31 = .ok (.iload_n 2, 1) := by decide +kernel
theorem d_M_readTypes_32 : decode b_M_readTypes 32 = .ok (.aload_n 0, 1) := by decide +kernel
theorem d_M_readTypes_33 : decode b_M_readTypes 33 = .ok (.iconst 4, 1) := by decide +kernel
theorem d_M_readTypes_34 : decode b_M_readTypes 34 = .ok (.invokevirtual 212, 3) := by decide +kernel
theorem d_M_readTypes_37 : decode b_M_readTypes 37 = .ok (.iastore, 1) := by decide +kernel
theorem d_M_readTypes_38 : decode b_M_readTypes 38 = .ok (.iconst 0, 1) := by decide +kernel
theorem d_M_readTypes_39 : decode b_M_readTypes 39 = .ok (.istore_n 3, 1) := by decide +kernel
theorem d_M_readTypes_40 : decode b_M_readTypes 40 = .ok (.iload_n 3, 1) := by decide +kernel
theorem d_M_readTypes_41 : decode b_M_readTypes 41 = .ok (.aload_n 0, 1) := by decide +kernel
theorem d_M_readTypes_42 : decode b_M_readTypes 42 = .ok (.getfield 13, 3) := by decide +kernel
theorem d_M_readTypes_45 : decode b_M_readTypes 45 = .ok (.iload_n 2, 1) := by decide +kernel
theorem d_M_readTypes_46 : decode b_M_readTypes 46 = .ok (.iaload, 1) := by decide +kernel
theorem d_M_readTypes_47 : decode b_M_readTypes 47 = .ok (.if_icmp .ge 13, 3) := by decide +kernel
theorem d_M_readTypes_50 : decode b_M_readTypes 50 = .ok (.aload_n 0, 1) := by decide +kernel
theorem d_M_readTypes_51 : decode b_M_readTypes 51 = .ok (.invokevirtual 216, 3) := by decide +kernel
theorem d_M_readTypes_54 : decode b_M_readTypes 54 = .ok (.iinc 3 1, 3) := by decide +kernel
theorem d_M_readTypes_57 : decode b_M_readTypes 57 = .ok (.goto (-17), 3) := by decide +kernel
theorem d_M_readTypes_60 : decode b_M_readTypes 60 = .ok (.aload_n 0, 1) := by decide +kernel
theorem d_M_readTypes_61 : decode b_M_readTypes 61 = .ok (.getfield 16, 3) := by decide +kernel
theorem d_M_readTypes_64 : decode b_M_readTypes 64 = .ok (.iload_n 2, 1) := by decide +kernel
theorem d_M_readTypes_65 : decode b_M_readTypes 65 = .ok (.aload_n 0, 1) := by decide +kernel
theorem d_M_readTypes_66 : decode b_M_readTypes 66 = .ok (.iconst 4, 1) := by decide +kernel
theorem d_M_readTypes_67 : decode b_M_readTypes 67 = .ok (.invokevirtual 212, 3) := by decide +kernel
theorem d_M_readTypes_70 : decode b_M_readTypes 70 = .ok (.iastore, 1) := by decide +kernel
theorem d_M_readTypes_71 : decode b_M_readTypes 71 = .ok (.iconst 0, 1) := by decide +kernel
theorem d_M_readTypes_72 : decode b_M_readTypes 72 = .ok (.istore_n 3, 1) := by decide +kernel
theorem d_M_readTypes_73 : decode b_M_readTypes 73 = .ok (.iload_n 3, 1) := by decide +kernel
theorem d_M_readTypes_74 : decode b_M_readTypes 74 = .ok (.aload_n 0, 1) := by decide +kernel
theorem d_M_readTypes_75 : decode b_M_readTypes 75 = .ok (.getfield 16, 3) := by decide +kernel
theorem d_M_readTypes_78 : decode b_M_readTypes 78 = .ok (.iload_n 2, 1) := by decide +kernel
theorem d_M_readTypes_79 : decode b_M_readTypes 79 = .ok (.iaload, 1) := by decide +kernel
theorem d_M_readTypes_80 : decode b_M_readTypes 80 = .ok (.if_icmp .ge 13, 3) := by decide +kernel
theorem d_M_readTypes_83 : decode b_M_readTypes 83 = .ok (.aload_n 0, 1) := by decide +kernel
theorem d_M_readTypes_84 : decode b_M_readTypes 84 = .ok (.invokevirtual 216, 3) := by decide +kernel
theorem d_M_readTypes_87 : decode b_M_readTypes 87 = .ok (.iinc 3 1, 3) := by decide +kernel
theorem d_M_readTypes_90 : decode b_M_readTypes 90 = .ok (.goto (-17), 3) := by decide +kernel
theorem d_M_readTypes_93 : decode b_M_readTypes 93 = .ok (.iinc 2 1, 3) := by decide +kernel
theorem d_M_readTypes_96 : decode b_M_readTypes 96 = .ok (.goto (-87), 3) := by decide +kernel
theorem d_M_readTypes_99 : decode b_M_readTypes 99 = .ok (.aload_n 0, 1) := by decide +kernel
theorem d_M_readTypes_100 : decode b_M_readTypes 100 = .ok (.iload_n 1, 1) := by decide +kernel
theorem d_M_readTypes_101 : decode b_M_readTypes 101 = .ok (.putfield 219, 3) := by decide +kernel
theorem d_M_readTypes_104 : decode b_M_readTypes 104 = .ok (.return_, 1) := by decide +kernel
theorem d_M_readFunctions_0 : decode b_M_readFunctions 0 = .ok (.aload_n 0, 1) := by decide +kernel
theorem d_M_readFunctions_1 : decode b_M_readFunctions 1 = .ok (.bipush 8, 2) := by decide +kernel
theorem d_M_readFunctions_3 : decode b_M_readFunctions 3 = .ok (.invokevirtual 212, 3) := by decide +kernel
theorem d_M_readFunctions_6 : decode b_M_readFunctions 6 = .ok (.istore_n 1, 1) := by decide +kernel
theorem d_M_readFunctions_7 : decode b_M_readFunctions 7 = .ok (.iconst 0, 1) := by decide +kernel
theorem d_M_readFunctions_8 : decode b_M_readFunctions 8 = .ok (.istore_n 2, 1) := by decide +kernel
theorem d_M_readFunctions_9 : decode b_M_readFunctions 9 = .ok (.iload_n 2, 1) := by decide +kernel
theorem d_M_readFunctions_10 : decode b_M_readFunctions 10 = .ok (.iload_n 1, 1) := by decide +kernel
theorem d_M_readFunctions_11 : decode b_M_readFunctions 11 = .ok (.if_icmp .ge 19, 3) := by decide +kernel
theorem d_M_readFunctions_14 : decode b_M_readFunctions 14 = .ok (.aload_n 0, 1) := by decide +kernel
theorem d_M_readFunctions_15 : decode b_M_readFunctions 15 = .ok (.getfield 19, 3) := by decide +kernel
theorem d_M_readFunctions_18 : decode b_M_readFunctions 18 = .ok (.iload_n 2, 1) := by decide +kernel
theorem d_M_readFunctions_19 : decode b_M_readFunctions 19 = .ok (.aload_n 0, 1) := by decide +kernel
theorem d_M_readFunctions_20 : decode b_M_readFunctions 20 = .ok (.invokevirtual 168, 3) := by decide +kernel
theorem d_M_readFunctions_23 : decode b_M_readFunctions 23 = .ok (.lastore, 1) := by decide +kernel
theorem d_M_readFunctions_24 : decode b_M_readFunctions 24 = .ok (.iinc 2 1, 3) := by decide +kernel
theorem d_M_readFunctions_27 : decode b_M_readFunctions 27 = .ok (.goto (-18), 3) := by decide +kernel
theorem d_M_readFunctions_30 : decode b_M_readFunctions 30 = .ok (.aload_n 0, 1) := by decide +kernel
theorem d_M_readFunctions_31 : decode b_M_readFunctions 31 = .ok (.iload_n 1, 1) := by decide +kernel
theorem d_M_readFunctions_32 : decode b_M_readFunctions 32 = .ok (.putfield 188, 3) := by decide +kernel
theorem d_M_readFunctions_35 : decode b_M_readFunctions 35 = .ok (.return_, 1) := by decide +kernel
theorem d_M_one_0 : decode b_M_one 0 = .ok (.aload_n 0, 1) := by decide +kernel
theorem d_M_one_1 : decode b_M_one 1 = .ok (.invokevirtual 162, 3) := by decide +kernel
theorem d_M_one_4 : decode b_M_one 4 = .ok (.istore_n 2, 1) := by decide +kernel
theorem d_M_one_5 : decode b_M_one 5 = .ok (.aload_n 0, 1) := by decide +kernel
theorem d_M_one_6 : decode b_M_one 6 = .ok (.iload_n 2, 1) := by decide +kernel
theorem d_M_one_7 : decode b_M_one 7 = .ok (.iload_n 1, 1) := by decide +kernel
theorem d_M_one_8 : decode b_M_one 8 = .ok (.if_icmp .ge 7, 3) := by decide +kernel
theorem d_M_one_11 : decode b_M_one 11 = .ok (.iconst 1, 1) := by decide +kernel
theorem d_M_one_12 : decode b_M_one 12 = .ok (.goto 4, 3) := by decide +kernel
theorem d_M_one_15 : decode b_M_one 15 = .ok (.iconst 0, 1) := by decide +kernel
theorem d_M_one_16 : decode b_M_one 16 = .ok (.iconst 1, 1) := by decide +kernel
theorem d_M_one_17 : decode b_M_one 17 = .ok (.invokevirtual 158, 3) := by decide +kernel
theorem d_M_one_20 : decode b_M_one 20 = .ok (.iload_n 2, 1) := by decide +kernel
theorem d_M_one_21 : decode b_M_one 21 = .ok (.ireturn, 1) := by decide +kernel
theorem d_M_readMemory_0 : decode b_M_readMemory 0 = .ok (.aload_n 0, 1) := by decide +kernel
theorem d_M_readMemory_1 : decode b_M_readMemory 1 = .ok (.aload_n 0, 1) := by decide +kernel
theorem d_M_readMemory_2 : decode b_M_readMemory 2 = .ok (.iconst 1, 1) := by decide +kernel
theorem d_M_readMemory_3 : decode b_M_readMemory 3 = .ok (.invokevirtual 212, 3) := by decide +kernel
theorem d_M_readMemory_6 : decode b_M_readMemory 6 = .ok (.putfield 222, 3) := by decide +kernel
theorem d_M_readMemory_9 : decode b_M_readMemory 9 = .ok (.aload_n 0, 1) := by decide +kernel
theorem d_M_readMemory_10 : decode b_M_readMemory 10 = .ok (.getfield 222, 3) := by decide +kernel
theorem d_M_readMemory_13 : decode b_M_readMemory 13 = .ok (.ifCond .eq 10, 3) := by decide +kernel
theorem d_M_readMemory_16 : decode b_M_readMemory 16 = .ok (.aload_n 0, 1) := by decide +kernel
theorem d_M_readMemory_17 : decode b_M_readMemory 17 = .ok (.getfield 149, 3) := by decide +kernel
theorem d_M_readMemory_20 : decode b_M_readMemory 20 = .ok (.ifCond .le 4, 3) := by decide +kernel
theorem d_M_readMemory_23 : decode b_M_readMemory 23 = .ok (.return_, 1) := by decide +kernel
theorem d_M_readMemory_24 : decode b_M_readMemory 24 = .ok (.aload_n 0, 1) := by decide +kernel
theorem d_M_readMemory_25 : decode b_M_readMemory 25 = .ok (.aload_n 0, 1) := by decide +kernel
theorem d_M_readMemory_26 : decode b_M_readMemory 26 = .ok (.iconst 2, 1) := by decide +kernel
theorem d_M_readMemory_27 : decode b_M_readMemory 27 = .ok (.invokevirtual 225, 3) := by decide +kernel
theorem d_M_readMemory_30 : decode b_M_readMemory 30 = .ok (.iconst 1, 1) := by decide +kernel
theorem d_M_readMemory_31 : decode b_M_readMemory 31 = .ok (.if_icmp .ne 7, 3) := by decide +kernel
theorem d_M_readMemory_34 : decode b_M_readMemory 34 = .ok (.iconst 1, 1) := by decide +kernel
theorem d_M_readMemory_35 : decode b_M_readMemory 35 = .ok (.goto 4, 3) := by decide +kernel
theorem d_M_readMemory_38 : decode b_M_readMemory 38 = .ok (.iconst 0, 1) := by decide +kernel
theorem d_M_readMemory_39 : decode b_M_readMemory 39 = .ok (.putfield 228, 3) := by decide +kernel
theorem d_M_readMemory_42 : decode b_M_readMemory 42 = .ok (.aload_n 0, 1) := by decide +kernel
theorem d_M_readMemory_43 : decode b_M_readMemory 43 = .ok (.aload_n 0, 1) := by decide +kernel
theorem d_M_readMemory_44 : decode b_M_readMemory 44 = .ok (.invokevirtual 168, 3) := by decide +kernel
theorem d_M_readMemory_47 : decode b_M_readMemory 47 = .ok (.putfield 231, 3) := by decide +kernel
theorem d_M_readMemory_50 : decode b_M_readMemory 50 = .ok (.aload_n 0, 1) := by decide +kernel
theorem d_M_readMemory_51 : decode b_M_readMemory 51 = .ok (.aload_n 0, 1) := by decide +kernel
theorem d_M_readMemory_52 : decode b_M_readMemory 52 = .ok (.getfield 231, 3) := by decide +kernel
theorem d_M_readMemory_55 : decode b_M_readMemory 55 = .ok (.ldc2_w 235, 3) := by decide +kernel
theorem d_M_readMemory_58 : decode b_M_readMemory 58 = .ok (.lcmp, 1) := by decide +kernel
theorem d_M_readMemory_59 : decode b_M_readMemory 59 = .ok (.ifCond .gt 7, 3) := by decide +kernel
theorem d_M_readMemory_62 : decode b_M_readMemory 62 = .ok (.iconst 1, 1) := by decide +kernel
theorem d_M_readMemory_63 : decode b_M_readMemory 63 = .ok (.goto 4, 3) := by decide +kernel
theorem d_M_readMemory_66 : decode b_M_readMemory 66 = .ok (.iconst 0, 1) := by decide +kernel
theorem d_M_readMemory_67 : decode b_M_readMemory 67 = .ok (.iconst 2, 1) := by decide +kernel
theorem d_M_readMemory_68 : decode b_M_readMemory 68 = .ok (.invokevirtual 158, 3) := by decide +kernel
theorem d_M_readMemory_71 : decode b_M_readMemory 71 = .ok (.aload_n 0, 1) := by decide +kernel
theorem d_M_readMemory_72 : decode b_M_readMemory 72 = .ok (.aload_n 0, 1) := by decide +kernel
theorem d_M_readMemory_73 : decode b_M_readMemory 73 = .ok (.getfield 228, 3) := by decide +kernel
theorem d_M_readMemory_76 : decode b_M_readMemory 76 = .ok (.ifCond .eq 10, 3) := by decide +kernel
theorem d_M_readMemory_79 : decode b_M_readMemory 79 = .ok (.aload_n 0, 1) := by decide +kernel
theorem d_M_readMemory_80 : decode b_M_readMemory 80 = .ok (.invokevirtual 168, 3) := by decide +kernel
theorem d_M_readMemory_83 : decode b_M_readMemory 83 = .ok (.goto 4, 3) := by decide +kernel
theorem d_M_readMemory_86 : decode b_M_readMemory 86 = .ok (.lconst 0, 1) := by decide +kernel
theorem d_M_readMemory_87 : decode b_M_readMemory 87 = .ok (.putfield 237, 3) := by decide +kernel
theorem d_M_readMemory_90 : decode b_M_readMemory 90 = .ok (.return_, 1) := by decide +kernel
theorem d_M_signed_0 : decode b_M_signed 0 = .ok (.lconst 0, 1) := by decide +kernel
theorem d_M_signed_1 : decode b_M_signed 1 = .ok (.lstore_n 1, 1) := by decide +kernel
theorem d_M_signed_2 : decode b_M_signed 2 = .ok (.iconst 1, 1) := by decide +kernel
theorem d_M_signed_3 : decode b_M_signed 3 = .ok (.istore_n 3, 1) := by decide +kernel
theorem d_M_signed_4 : decode b_M_signed 4 = .ok (.iconst 0, 1) := by decide +kernel
theorem d_M_signed_5 : decode b_M_signed 5 = .ok (.istore 4, 2) := by decide +kernel
theorem d_M_signed_7 : decode b_M_signed 7 = .ok (.iload 4, 2) := by decide +kernel
theorem d_M_signed_9 : decode b_M_signed 9 = .ok (.iconst 5, 1) := by decide +kernel
theorem d_M_signed_10 : decode b_M_signed 10 = .ok (.if_icmp .ge 124, 3) := by decide +kernel
theorem d_M_signed_13 : decode b_M_signed 13 = .ok (.iload_n 3, 1) := by decide +kernel
theorem d_M_signed_14 : decode b_M_signed 14 = .ok (.ifCond .eq 120, 3) := by decide +kernel
theorem d_M_signed_17 : decode b_M_signed 17 = .ok (.aload_n 0, 1) := by decide +kernel
theorem d_M_signed_18 : decode b_M_signed 18 = .ok (.getfield 149, 3) := by decide +kernel
theorem d_M_signed_21 : decode b_M_signed 21 = .ok (.ifCond .ne 113, 3) := by decide +kernel
theorem d_M_signed_24 : decode b_M_signed 24 = .ok (.aload_n 0, 1) := by decide +kernel
theorem d_M_signed_25 : decode b_M_signed 25 = .ok (.invokevirtual 162, 3) := by decide +kernel
theorem d_M_signed_28 : decode b_M_signed 28 = .ok (.istore 5, 2) := by decide +kernel
theorem d_M_signed_30 : decode b_M_signed 30 = .ok (.iload 5, 2) := by decide +kernel
theorem d_M_signed_32 : decode b_M_signed 32 = .ok (.bipush 120, 2) := by decide +kernel
theorem d_M_signed_34 : decode b_M_signed 34 = .ok (.iand, 1) := by decide +kernel
theorem d_M_signed_35 : decode b_M_signed 35 = .ok (.istore 6, 2) := by decide +kernel
theorem d_M_signed_37 : decode b_M_signed 37 = .ok (.aload_n 0, 1) := by decide +kernel
theorem d_M_signed_38 : decode b_M_signed 38 = .ok (.iload 4, 2) := by decide +kernel
theorem d_M_signed_40 : decode b_M_signed 40 = .ok (.iconst 4, 1) := by decide +kernel
theorem d_M_signed_41 : decode b_M_signed 41 = .ok (.if_icmp .lt 23, 3) := by decide +kernel
theorem d_M_signed_44 : decode b_M_signed 44 = .ok (.iload 5, 2) := by decide +kernel
theorem d_M_signed_46 : decode b_M_signed 46 = .ok (.sipush 128, 3) := by decide +kernel
theorem d_M_signed_49 : decode b_M_signed 49 = .ok (.if_icmp .ge 19, 3) := by decide +kernel
theorem d_M_signed_52 : decode b_M_signed 52 = .ok (.iload 6, 2) := by decide +kernel
theorem d_M_signed_54 : decode b_M_signed 54 = .ok (.ifCond .eq 10, 3) := by decide +kernel
theorem d_M_signed_57 : decode b_M_signed 57 = .ok (.iload 6, 2) := by decide +kernel
theorem d_M_signed_59 : decode b_M_signed 59 = .ok (.bipush 120, 2) := by decide +kernel
theorem d_M_signed_61 : decode b_M_signed 61 = .ok (.if_icmp .ne 7, 3) := by decide +kernel
theorem d_M_signed_64 : decode b_M_signed 64 = .ok (.iconst 1, 1) := by decide +kernel
theorem d_M_signed_65 : decode b_M_signed 65 = .ok (.goto 4, 3) := by decide +kernel
theorem d_M_signed_68 : decode b_M_signed 68 = .ok (.iconst 0, 1) := by decide +kernel
theorem d_M_signed_69 : decode b_M_signed 69 = .ok (.iconst 1, 1) := by decide +kernel
theorem d_M_signed_70 : decode b_M_signed 70 = .ok (.invokevirtual 158, 3) := by decide +kernel
theorem d_M_signed_73 : decode b_M_signed 73 = .ok (.lload_n 1, 1) := by decide +kernel
theorem d_M_signed_74 : decode b_M_signed 74 = .ok (.iload 5, 2) := by decide +kernel
theorem d_M_signed_76 : decode b_M_signed 76 = .ok (.bipush 127, 2) := by decide +kernel
theorem d_M_signed_78 : decode b_M_signed 78 = .ok (.iand, 1) := by decide +kernel
theorem d_M_signed_79 : decode b_M_signed 79 = .ok (.i2l, 1) := by decide +kernel
theorem d_M_signed_80 : decode b_M_signed 80 = .ok (.bipush 7, 2) := by decide +kernel
theorem d_M_signed_82 : decode b_M_signed 82 = .ok (.iload 4, 2) := by decide +kernel
theorem d_M_signed_84 : decode b_M_signed 84 = .ok (.imul, 1) := by decide +kernel
theorem d_M_signed_85 : decode b_M_signed 85 = .ok (.lshl, 1) := by decide +kernel
theorem d_M_signed_86 : decode b_M_signed 86 = .ok (.lor, 1) := by decide +kernel
theorem d_M_signed_87 : decode b_M_signed 87 = .ok (.lstore_n 1, 1) := by decide +kernel
theorem d_M_signed_88 : decode b_M_signed 88 = .ok (.iload 5, 2) := by decide +kernel
theorem d_M_signed_90 : decode b_M_signed 90 = .ok (.bipush 127, 2) := by decide +kernel
theorem d_M_signed_92 : decode b_M_signed 92 = .ok (.if_icmp .le 7, 3) := by decide +kernel
theorem d_M_signed_95 : decode b_M_signed 95 = .ok (.iconst 1, 1) := by decide +kernel
theorem d_M_signed_96 : decode b_M_signed 96 = .ok (.goto 4, 3) := by decide +kernel
theorem d_M_signed_99 : decode b_M_signed 99 = .ok (.iconst 0, 1) := by decide +kernel
theorem d_M_signed_100 : decode b_M_signed 100 = .ok (.istore_n 3, 1) := by decide +kernel
theorem d_M_signed_101 : decode b_M_signed 101 = .ok (.iload_n 3, 1) := by decide +kernel
theorem d_M_signed_102 : decode b_M_signed 102 = .ok (.ifCond .ne 26, 3) := by decide +kernel
theorem d_M_signed_105 : decode b_M_signed 105 = .ok (.iload 5, 2) := by decide +kernel
theorem d_M_signed_107 : decode b_M_signed 107 = .ok (.bipush 64, 2) := by decide +kernel
theorem d_M_signed_109 : decode b_M_signed 109 = .ok (.iand, 1) := by decide +kernel
theorem d_M_signed_110 : decode b_M_signed 110 = .ok (.ifCond .eq 18, 3) := by decide +kernel
theorem d_M_signed_113 : decode b_M_signed 113 = .ok (.lload_n 1, 1) := by decide +kernel
theorem d_M_signed_114 : decode b_M_signed 114 = .ok (.ldc2_w 166, 3) := by decide +kernel
theorem d_M_signed_117 : decode b_M_signed 117 = .ok (.bipush 7, 2) := by decide +kernel
theorem d_M_signed_119 : decode b_M_signed 119 = .ok (.iload 4, 2) := by decide +kernel
theorem d_M_signed_121 : decode b_M_signed 121 = .ok (.imul, 1) := by decide +kernel
theorem d_M_signed_122 : decode b_M_signed 122 = .ok (.bipush 7, 2) := by decide +kernel
theorem d_M_signed_124 : decode b_M_signed 124 = .ok (.iadd, 1) := by decide +kernel
theorem d_M_signed_125 : decode b_M_signed 125 = .ok (.lshl, 1) := by decide +kernel
theorem d_M_signed_126 : decode b_M_signed 126 = .ok (.lor, 1) := by decide +kernel
theorem d_M_signed_127 : decode b_M_signed 127 = .ok (.lstore_n 1, 1) := by decide +kernel
theorem d_M_signed_128 : decode b_M_signed 128 = .ok (.iinc 4 1, 3) := by decide +kernel
theorem d_M_signed_131 : decode b_M_signed 131 = .ok (.goto (-124), 3) := by decide +kernel
theorem d_M_signed_134 : decode b_M_signed 134 = .ok (.lload_n 1, 1) := by decide +kernel
theorem d_M_signed_135 : decode b_M_signed 135 = .ok (.l2i, 1) := by decide +kernel
theorem d_M_signed_136 : decode b_M_signed 136 = .ok (.ireturn, 1) := by decide +kernel
theorem d_M_constant_0 : decode b_M_constant 0 = .ok (.aload_n 0, 1) := by decide +kernel
theorem d_M_constant_1 : decode b_M_constant 1 = .ok (.bipush 65, 2) := by decide +kernel
theorem d_M_constant_3 : decode b_M_constant 3 = .ok (.invokevirtual 172, 3) := by decide +kernel
theorem d_M_constant_6 : decode b_M_constant 6 = .ok (.aload_n 0, 1) := by decide +kernel
theorem d_M_constant_7 : decode b_M_constant 7 = .ok (.invokevirtual 176, 3) := by decide +kernel
theorem d_M_constant_10 : decode b_M_constant 10 = .ok (.istore_n 1, 1) := by decide +kernel
theorem d_M_constant_11 : decode b_M_constant 11 = .ok (.aload_n 0, 1) := by decide +kernel
theorem d_M_constant_12 : decode b_M_constant 12 = .ok (.bipush 11, 2) := by decide +kernel
theorem d_M_constant_14 : decode b_M_constant 14 = .ok (.invokevirtual 172, 3) := by decide +kernel
theorem d_M_constant_17 : decode b_M_constant 17 = .ok (.iload_n 1, 1) := by decide +kernel
theorem d_M_constant_18 : decode b_M_constant 18 = .ok (.ireturn, 1) := by decide +kernel
theorem d_M_readGlobals_0 : decode b_M_readGlobals 0 = .ok (.aload_n 0, 1) := by decide +kernel
theorem d_M_readGlobals_1 : decode b_M_readGlobals 1 = .ok (.iconst 4, 1) := by decide +kernel
theorem d_M_readGlobals_2 : decode b_M_readGlobals 2 = .ok (.invokevirtual 212, 3) := by decide +kernel
theorem d_M_readGlobals_5 : decode b_M_readGlobals 5 = .ok (.istore_n 1, 1) := by decide +kernel
theorem d_M_readGlobals_6 : decode b_M_readGlobals 6 = .ok (.iconst 0, 1) := by decide +kernel
theorem d_M_readGlobals_7 : decode b_M_readGlobals 7 = .ok (.istore_n 2, 1) := by decide +kernel
theorem d_M_readGlobals_8 : decode b_M_readGlobals 8 = .ok (.iload_n 2, 1) := by decide +kernel
theorem d_M_readGlobals_9 : decode b_M_readGlobals 9 = .ok (.iload_n 1, 1) := by decide +kernel
theorem d_M_readGlobals_10 : decode b_M_readGlobals 10 = .ok (.if_icmp .ge 50, 3) := by decide +kernel
theorem d_M_readGlobals_13 : decode b_M_readGlobals 13 = .ok (.aload_n 0, 1) := by decide +kernel
theorem d_M_readGlobals_14 : decode b_M_readGlobals 14 = .ok (.getfield 149, 3) := by decide +kernel
theorem d_M_readGlobals_17 : decode b_M_readGlobals 17 = .ok (.ifCond .ne 43, 3) := by decide +kernel
theorem d_M_readGlobals_20 : decode b_M_readGlobals 20 = .ok (.aload_n 0, 1) := by decide +kernel
theorem d_M_readGlobals_21 : decode b_M_readGlobals 21 = .ok (.invokevirtual 216, 3) := by decide +kernel
theorem d_M_readGlobals_24 : decode b_M_readGlobals 24 = .ok (.aload_n 0, 1) := by decide +kernel
theorem d_M_readGlobals_25 : decode b_M_readGlobals 25 = .ok (.getfield 23, 3) := by decide +kernel
theorem d_M_readGlobals_28 : decode b_M_readGlobals 28 = .ok (.iload_n 2, 1) := by decide +kernel
theorem d_M_readGlobals_29 : decode b_M_readGlobals 29 = .ok (.aload_n 0, 1) := by decide +kernel
theorem d_M_readGlobals_30 : decode b_M_readGlobals 30 = .ok (.iconst 2, 1) := by decide +kernel
theorem d_M_readGlobals_31 : decode b_M_readGlobals 31 = .ok (.invokevirtual 225, 3) := by decide +kernel
theorem d_M_readGlobals_34 : decode b_M_readGlobals 34 = .ok (.iconst 1, 1) := by decide +kernel
theorem d_M_readGlobals_35 : decode b_M_readGlobals 35 = .ok (.if_icmp .ne 7, 3) := by decide +kernel
theorem d_M_readGlobals_38 : decode b_M_readGlobals 38 = .ok (.iconst 1, 1) := by decide +kernel
theorem d_M_readGlobals_39 : decode b_M_readGlobals 39 = .ok (.goto 4, 3) := by decide +kernel
theorem d_M_readGlobals_42 : decode b_M_readGlobals 42 = .ok (.iconst 0, 1) := by decide +kernel
theorem d_M_readGlobals_43 : decode b_M_readGlobals 43 = .ok (.bastore, 1) := by decide +kernel
theorem d_M_readGlobals_44 : decode b_M_readGlobals 44 = .ok (.aload_n 0, 1) := by decide +kernel
theorem d_M_readGlobals_45 : decode b_M_readGlobals 45 = .ok (.getfield 27, 3) := by decide +kernel
theorem d_M_readGlobals_48 : decode b_M_readGlobals 48 = .ok (.iload_n 2, 1) := by decide +kernel
theorem d_M_readGlobals_49 : decode b_M_readGlobals 49 = .ok (.aload_n 0, 1) := by decide +kernel
theorem d_M_readGlobals_50 : decode b_M_readGlobals 50 = .ok (.invokevirtual 240, 3) := by decide +kernel
theorem d_M_readGlobals_53 : decode b_M_readGlobals 53 = .ok (.iastore, 1) := by decide +kernel
theorem d_M_readGlobals_54 : decode b_M_readGlobals 54 = .ok (.iinc 2 1, 3) := by decide +kernel
theorem d_M_readGlobals_57 : decode b_M_readGlobals 57 = .ok (.goto (-49), 3) := by decide +kernel
theorem d_M_readGlobals_60 : decode b_M_readGlobals 60 = .ok (.aload_n 0, 1) := by decide +kernel
theorem d_M_readGlobals_61 : decode b_M_readGlobals 61 = .ok (.iload_n 1, 1) := by decide +kernel
theorem d_M_readGlobals_62 : decode b_M_readGlobals 62 = .ok (.putfield 243, 3) := by decide +kernel
theorem d_M_readGlobals_65 : decode b_M_readGlobals 65 = .ok (.return_, 1) := by decide +kernel
theorem d_M_readExports_0 : decode b_M_readExports 0 = .ok (.aload_n 0, 1) := by decide +kernel
theorem d_M_readExports_1 : decode b_M_readExports 1 = .ok (.bipush 8, 2) := by decide +kernel
theorem d_M_readExports_3 : decode b_M_readExports 3 = .ok (.invokevirtual 212, 3) := by decide +kernel
theorem d_M_readExports_6 : decode b_M_readExports 6 = .ok (.istore_n 1, 1) := by decide +kernel
theorem d_M_readExports_7 : decode b_M_readExports 7 = .ok (.iconst 0, 1) := by decide +kernel
theorem d_M_readExports_8 : decode b_M_readExports 8 = .ok (.istore_n 2, 1) := by decide +kernel
theorem d_M_readExports_9 : decode b_M_readExports 9 = .ok (.iload_n 2, 1) := by decide +kernel
theorem d_M_readExports_10 : decode b_M_readExports 10 = .ok (.iload_n 1, 1) := by decide +kernel
theorem d_M_readExports_11 : decode b_M_readExports 11 = .ok (.if_icmp .ge 113, 3) := by decide +kernel
theorem d_M_readExports_14 : decode b_M_readExports 14 = .ok (.aload_n 0, 1) := by decide +kernel
theorem d_M_readExports_15 : decode b_M_readExports 15 = .ok (.getfield 149, 3) := by decide +kernel
theorem d_M_readExports_18 : decode b_M_readExports 18 = .ok (.ifCond .ne 106, 3) := by decide +kernel
theorem d_M_readExports_21 : decode b_M_readExports 21 = .ok (.aload_n 0, 1) := by decide +kernel
theorem d_M_readExports_22 : decode b_M_readExports 22 = .ok (.bipush 8, 2) := by decide +kernel
theorem d_M_readExports_24 : decode b_M_readExports 24 = .ok (.invokevirtual 212, 3) := by decide +kernel
theorem d_M_readExports_27 : decode b_M_readExports 27 = .ok (.istore_n 3, 1) := by decide +kernel
theorem d_M_readExports_28 : decode b_M_readExports 28 = .ok (.aload_n 0, 1) := by decide +kernel
theorem d_M_readExports_29 : decode b_M_readExports 29 = .ok (.getfield 30, 3) := by decide +kernel
theorem d_M_readExports_32 : decode b_M_readExports 32 = .ok (.iload_n 2, 1) := by decide +kernel
theorem d_M_readExports_33 : decode b_M_readExports 33 = .ok (.iload_n 3, 1) := by decide +kernel
theorem d_M_readExports_34 : decode b_M_readExports 34 = .ok (.i2l, 1) := by decide +kernel
theorem d_M_readExports_35 : decode b_M_readExports 35 = .ok (.lastore, 1) := by decide +kernel
theorem d_M_readExports_36 : decode b_M_readExports 36 = .ok (.iconst 0, 1) := by decide +kernel
theorem d_M_readExports_37 : decode b_M_readExports 37 = .ok (.istore 4, 2) := by decide +kernel
theorem d_M_readExports_39 : decode b_M_readExports 39 = .ok (.iload 4, 2) := by decide +kernel
theorem d_M_readExports_41 : decode b_M_readExports 41 = .ok (.iload_n 3, 1) := by decide +kernel
theorem d_M_readExports_42 : decode b_M_readExports 42 = .ok (.if_icmp .ge 55, 3) := by decide +kernel
theorem d_M_readExports_45 : decode b_M_readExports 45 = .ok (.aload_n 0, 1) := by decide +kernel
theorem d_M_readExports_46 : decode b_M_readExports 46 = .ok (.invokevirtual 162, 3) := by decide +kernel
theorem d_M_readExports_49 : decode b_M_readExports 49 = .ok (.istore 5, 2) := by decide +kernel
theorem d_M_readExports_51 : decode b_M_readExports 51 = .ok (.aload_n 0, 1) := by decide +kernel
theorem d_M_readExports_52 : decode b_M_readExports 52 = .ok (.iload 5, 2) := by decide +kernel
theorem d_M_readExports_54 : decode b_M_readExports 54 = .ok (.sipush 128, 3) := by decide +kernel
theorem d_M_readExports_57 : decode b_M_readExports 57 = .ok (.if_icmp .ge 7, 3) := by decide +kernel
theorem d_M_readExports_60 : decode b_M_readExports 60 = .ok (.iconst 1, 1) := by decide +kernel
theorem d_M_readExports_61 : decode b_M_readExports 61 = .ok (.goto 4, 3) := by decide +kernel
theorem d_M_readExports_64 : decode b_M_readExports 64 = .ok (.iconst 0, 1) := by decide +kernel
theorem d_M_readExports_65 : decode b_M_readExports 65 = .ok (.iconst 2, 1) := by decide +kernel
theorem d_M_readExports_66 : decode b_M_readExports 66 = .ok (.invokevirtual 158, 3) := by decide +kernel
theorem d_M_readExports_69 : decode b_M_readExports 69 = .ok (.aload_n 0, 1) := by decide +kernel
theorem d_M_readExports_70 : decode b_M_readExports 70 = .ok (.getfield 30, 3) := by decide +kernel
theorem d_M_readExports_73 : decode b_M_readExports 73 = .ok (.iload_n 2, 1) := by decide +kernel
theorem d_M_readExports_74 : decode b_M_readExports 74 = .ok (.aload_n 0, 1) := by decide +kernel
theorem d_M_readExports_75 : decode b_M_readExports 75 = .ok (.getfield 30, 3) := by decide +kernel
theorem d_M_readExports_78 : decode b_M_readExports 78 = .ok (.iload_n 2, 1) := by decide +kernel
theorem d_M_readExports_79 : decode b_M_readExports 79 = .ok (.laload, 1) := by decide +kernel
theorem d_M_readExports_80 : decode b_M_readExports 80 = .ok (.bipush 7, 2) := by decide +kernel
theorem d_M_readExports_82 : decode b_M_readExports 82 = .ok (.lshl, 1) := by decide +kernel
theorem d_M_readExports_83 : decode b_M_readExports 83 = .ok (.iload 5, 2) := by decide +kernel
theorem d_M_readExports_85 : decode b_M_readExports 85 = .ok (.bipush 127, 2) := by decide +kernel
theorem d_M_readExports_87 : decode b_M_readExports 87 = .ok (.iand, 1) := by decide +kernel
theorem d_M_readExports_88 : decode b_M_readExports 88 = .ok (.i2l, 1) := by decide +kernel
theorem d_M_readExports_89 : decode b_M_readExports 89 = .ok (.lor, 1) := by decide +kernel
theorem d_M_readExports_90 : decode b_M_readExports 90 = .ok (.lastore, 1) := by decide +kernel
theorem d_M_readExports_91 : decode b_M_readExports 91 = .ok (.iinc 4 1, 3) := by decide +kernel
theorem d_M_readExports_94 : decode b_M_readExports 94 = .ok (.goto (-55), 3) := by decide +kernel
theorem d_M_readExports_97 : decode b_M_readExports 97 = .ok (.aload_n 0, 1) := by decide +kernel
theorem d_M_readExports_98 : decode b_M_readExports 98 = .ok (.getfield 33, 3) := by decide +kernel
theorem d_M_readExports_101 : decode b_M_readExports 101 = .ok (.iload_n 2, 1) := by decide +kernel
theorem d_M_readExports_102 : decode b_M_readExports 102 = .ok (.aload_n 0, 1) := by decide +kernel
theorem d_M_readExports_103 : decode b_M_readExports 103 = .ok (.iconst 4, 1) := by decide +kernel
theorem d_M_readExports_104 : decode b_M_readExports 104 = .ok (.invokevirtual 225, 3) := by decide +kernel
theorem d_M_readExports_107 : decode b_M_readExports 107 = .ok (.iastore, 1) := by decide +kernel
theorem d_M_readExports_108 : decode b_M_readExports 108 = .ok (.aload_n 0, 1) := by decide +kernel
theorem d_M_readExports_109 : decode b_M_readExports 109 = .ok (.getfield 36, 3) := by decide +kernel
theorem d_M_readExports_112 : decode b_M_readExports 112 = .ok (.iload_n 2, 1) := by decide +kernel
theorem d_M_readExports_113 : decode b_M_readExports 113 = .ok (.aload_n 0, 1) := by decide +kernel
theorem d_M_readExports_114 : decode b_M_readExports 114 = .ok (.invokevirtual 168, 3) := by decide +kernel
theorem d_M_readExports_117 : decode b_M_readExports 117 = .ok (.lastore, 1) := by decide +kernel
theorem d_M_readExports_118 : decode b_M_readExports 118 = .ok (.iinc 2 1, 3) := by decide +kernel
theorem d_M_readExports_121 : decode b_M_readExports 121 = .ok (.goto (-112), 3) := by decide +kernel
theorem d_M_readExports_124 : decode b_M_readExports 124 = .ok (.aload_n 0, 1) := by decide +kernel
theorem d_M_readExports_125 : decode b_M_readExports 125 = .ok (.iload_n 1, 1) := by decide +kernel
theorem d_M_readExports_126 : decode b_M_readExports 126 = .ok (.putfield 246, 3) := by decide +kernel
theorem d_M_readExports_129 : decode b_M_readExports 129 = .ok (.return_, 1) := by decide +kernel
theorem d_M_parameters_0 : decode b_M_parameters 0 = .ok (.aload_n 0, 1) := by decide +kernel
theorem d_M_parameters_1 : decode b_M_parameters 1 = .ok (.getfield 19, 3) := by decide +kernel
theorem d_M_parameters_4 : decode b_M_parameters 4 = .ok (.iload_n 1, 1) := by decide +kernel
theorem d_M_parameters_5 : decode b_M_parameters 5 = .ok (.laload, 1) := by decide +kernel
theorem d_M_parameters_6 : decode b_M_parameters 6 = .ok (.aload_n 0, 1) := by decide +kernel
theorem d_M_parameters_7 : decode b_M_parameters 7 = .ok (.getfield 219, 3) := by decide +kernel
theorem d_M_parameters_10 : decode b_M_parameters 10 = .ok (.i2l, 1) := by decide +kernel
theorem d_M_parameters_11 : decode b_M_parameters 11 = .ok (.lcmp, 1) := by decide +kernel
theorem d_M_parameters_12 : decode b_M_parameters 12 = .ok (.ifCond .ge 18, 3) := by decide +kernel
theorem d_M_parameters_15 : decode b_M_parameters 15 = .ok (.aload_n 0, 1) := by decide +kernel
theorem d_M_parameters_16 : decode b_M_parameters 16 = .ok (.getfield 13, 3) := by decide +kernel
theorem d_M_parameters_19 : decode b_M_parameters 19 = .ok (.aload_n 0, 1) := by decide +kernel
theorem d_M_parameters_20 : decode b_M_parameters 20 = .ok (.getfield 19, 3) := by decide +kernel
theorem d_M_parameters_23 : decode b_M_parameters 23 = .ok (.iload_n 1, 1) := by decide +kernel
theorem d_M_parameters_24 : decode b_M_parameters 24 = .ok (.laload, 1) := by decide +kernel
theorem d_M_parameters_25 : decode b_M_parameters 25 = .ok (.l2i, 1) := by decide +kernel
theorem d_M_parameters_26 : decode b_M_parameters 26 = .ok (.iaload, 1) := by decide +kernel
theorem d_M_parameters_27 : decode b_M_parameters 27 = .ok (.goto 4, 3) := by decide +kernel
theorem d_M_parameters_30 : decode b_M_parameters 30 = .ok (.iconst 0, 1) := by decide +kernel
theorem d_M_parameters_31 : decode b_M_parameters 31 = .ok (.ireturn, 1) := by decide +kernel
theorem d_M_readLocals_0 : decode b_M_readLocals 0 = .ok (.aload_n 0, 1) := by decide +kernel
theorem d_M_readLocals_1 : decode b_M_readLocals 1 = .ok (.invokevirtual 168, 3) := by decide +kernel
theorem d_M_readLocals_4 : decode b_M_readLocals 4 = .ok (.lstore_n 2, 1) := by decide +kernel
theorem d_M_readLocals_5 : decode b_M_readLocals 5 = .ok (.aload_n 0, 1) := by decide +kernel
theorem d_M_readLocals_6 : decode b_M_readLocals 6 = .ok (.iload_n 1, 1) := by decide +kernel
theorem d_M_readLocals_7 : decode b_M_readLocals 7 = .ok (.invokevirtual 258, 3) := by decide +kernel
theorem d_M_readLocals_10 : decode b_M_readLocals 10 = .ok (.i2l, 1) := by decide +kernel
theorem d_M_readLocals_11 : decode b_M_readLocals 11 = .ok (.lstore 4, 2) := by decide +kernel
theorem d_M_readLocals_13 : decode b_M_readLocals 13 = .ok (.lconst 0, 1) := by decide +kernel
theorem d_M_readLocals_14 : decode b_M_readLocals 14 = .ok (.lstore 6, 2) := by decide +kernel
theorem d_M_readLocals_16 : decode b_M_readLocals 16 = .ok (.lload 6, 2) := by decide +kernel
theorem d_M_readLocals_18 : decode b_M_readLocals 18 = .ok (.lload_n 2, 1) := by decide +kernel
theorem d_M_readLocals_19 : decode b_M_readLocals 19 = .ok (.lcmp, 1) := by decide +kernel
theorem d_M_readLocals_20 : decode b_M_readLocals 20 = .ok (.ifCond .ge 55, 3) := by decide +kernel
theorem d_M_readLocals_23 : decode b_M_readLocals 23 = .ok (.aload_n 0, 1) := by decide +kernel
theorem d_M_readLocals_24 : decode b_M_readLocals 24 = .ok (.getfield 149, 3) := by decide +kernel
theorem d_M_readLocals_27 : decode b_M_readLocals 27 = .ok (.ifCond .ne 48, 3) := by decide +kernel
theorem d_M_readLocals_30 : decode b_M_readLocals 30 = .ok (.aload_n 0, 1) := by decide +kernel
theorem d_M_readLocals_31 : decode b_M_readLocals 31 = .ok (.invokevirtual 168, 3) := by decide +kernel
theorem d_M_readLocals_34 : decode b_M_readLocals 34 = .ok (.lstore 8, 2) := by decide +kernel
theorem d_M_readLocals_36 : decode b_M_readLocals 36 = .ok (.lload 4, 2) := by decide +kernel
theorem d_M_readLocals_38 : decode b_M_readLocals 38 = .ok (.lload 8, 2) := by decide +kernel
theorem d_M_readLocals_40 : decode b_M_readLocals 40 = .ok (.ladd, 1) := by decide +kernel
theorem d_M_readLocals_41 : decode b_M_readLocals 41 = .ok (.lstore 4, 2) := by decide +kernel
theorem d_M_readLocals_43 : decode b_M_readLocals 43 = .ok (.aload_n 0, 1) := by decide +kernel
theorem d_M_readLocals_44 : decode b_M_readLocals 44 = .ok (.lload 4, 2) := by decide +kernel
theorem d_M_readLocals_46 : decode b_M_readLocals 46 = .ok (.ldc2_w 261, 3) := by decide +kernel
theorem d_M_readLocals_49 : decode b_M_readLocals 49 = .ok (.lcmp, 1) := by decide +kernel
theorem d_M_readLocals_50 : decode b_M_readLocals 50 = .ok (.ifCond .gt 7, 3) := by decide +kernel
theorem d_M_readLocals_53 : decode b_M_readLocals 53 = .ok (.iconst 1, 1) := by decide +kernel
theorem d_M_readLocals_54 : decode b_M_readLocals 54 = .ok (.goto 4, 3) := by decide +kernel
theorem d_M_readLocals_57 : decode b_M_readLocals 57 = .ok (.iconst 0, 1) := by decide +kernel
theorem d_M_readLocals_58 : decode b_M_readLocals 58 = .ok (.iconst 2, 1) := by decide +kernel
theorem d_M_readLocals_59 : decode b_M_readLocals 59 = .ok (.invokevirtual 158, 3) := by decide +kernel
theorem d_M_readLocals_62 : decode b_M_readLocals 62 = .ok (.aload_n 0, 1) := by decide +kernel
theorem d_M_readLocals_63 : decode b_M_readLocals 63 = .ok (.invokevirtual 216, 3) := by decide +kernel
theorem d_M_readLocals_66 : decode b_M_readLocals 66 = .ok (.lload 6, 2) := by decide +kernel
theorem d_M_readLocals_68 : decode b_M_readLocals 68 = .ok (.lconst 1, 1) := by decide +kernel
theorem d_M_readLocals_69 : decode b_M_readLocals 69 = .ok (.ladd, 1) := by decide +kernel
theorem d_M_readLocals_70 : decode b_M_readLocals 70 = .ok (.lstore 6, 2) := by decide +kernel
theorem d_M_readLocals_72 : decode b_M_readLocals 72 = .ok (.goto (-56), 3) := by decide +kernel
theorem d_M_readLocals_75 : decode b_M_readLocals 75 = .ok (.aload_n 0, 1) := by decide +kernel
theorem d_M_readLocals_76 : decode b_M_readLocals 76 = .ok (.getfield 81, 3) := by decide +kernel
theorem d_M_readLocals_79 : decode b_M_readLocals 79 = .ok (.iload_n 1, 1) := by decide +kernel
theorem d_M_readLocals_80 : decode b_M_readLocals 80 = .ok (.aload_n 0, 1) := by decide +kernel
theorem d_M_readLocals_81 : decode b_M_readLocals 81 = .ok (.getfield 149, 3) := by decide +kernel
theorem d_M_readLocals_84 : decode b_M_readLocals 84 = .ok (.ifCond .le 7, 3) := by decide +kernel
theorem d_M_readLocals_87 : decode b_M_readLocals 87 = .ok (.iconst 0, 1) := by decide +kernel
theorem d_M_readLocals_88 : decode b_M_readLocals 88 = .ok (.goto 12, 3) := by decide +kernel
theorem d_M_readLocals_91 : decode b_M_readLocals 91 = .ok (.lload 4, 2) := by decide +kernel
theorem d_M_readLocals_93 : decode b_M_readLocals 93 = .ok (.l2i, 1) := by decide +kernel
theorem d_M_readLocals_94 : decode b_M_readLocals 94 = .ok (.aload_n 0, 1) := by decide +kernel
theorem d_M_readLocals_95 : decode b_M_readLocals 95 = .ok (.iload_n 1, 1) := by decide +kernel
theorem d_M_readLocals_96 : decode b_M_readLocals 96 = .ok (.invokevirtual 258, 3) := by decide +kernel
theorem d_M_readLocals_99 : decode b_M_readLocals 99 = .ok (.isub, 1) := by decide +kernel
theorem d_M_readLocals_100 : decode b_M_readLocals 100 = .ok (.iastore, 1) := by decide +kernel
theorem d_M_readLocals_101 : decode b_M_readLocals 101 = .ok (.return_, 1) := by decide +kernel
theorem d_M_isKnown_0 : decode b_M_isKnown 0 = .ok (.iload_n 0, 1) := by decide +kernel
theorem d_M_isKnown_1 : decode b_M_isKnown 1 = .ok (.bipush 6, 2) := by decide +kernel
theorem d_M_isKnown_3 : decode b_M_isKnown 3 = .ok (.if_icmp .lt 111, 3) := by decide +kernel
theorem d_M_isKnown_6 : decode b_M_isKnown 6 = .ok (.iload_n 0, 1) := by decide +kernel
theorem d_M_isKnown_7 : decode b_M_isKnown 7 = .ok (.bipush 10, 2) := by decide +kernel
theorem d_M_isKnown_9 : decode b_M_isKnown 9 = .ok (.if_icmp .le 9, 3) := by decide +kernel
theorem d_M_isKnown_12 : decode b_M_isKnown 12 = .ok (.iload_n 0, 1) := by decide +kernel
theorem d_M_isKnown_13 : decode b_M_isKnown 13 = .ok (.bipush 17, 2) := by decide +kernel
theorem d_M_isKnown_15 : decode b_M_isKnown 15 = .ok (.if_icmp .lt 99, 3) := by decide +kernel
theorem d_M_isKnown_18 : decode b_M_isKnown 18 = .ok (.iload_n 0, 1) := by decide +kernel
theorem d_M_isKnown_19 : decode b_M_isKnown 19 = .ok (.bipush 26, 2) := by decide +kernel
theorem d_M_isKnown_21 : decode b_M_isKnown 21 = .ok (.if_icmp .eq 93, 3) := by decide +kernel
theorem d_M_isKnown_24 : decode b_M_isKnown 24 = .ok (.iload_n 0, 1) := by decide +kernel
theorem d_M_isKnown_25 : decode b_M_isKnown 25 = .ok (.bipush 27, 2) := by decide +kernel
theorem d_M_isKnown_27 : decode b_M_isKnown 27 = .ok (.if_icmp .eq 87, 3) := by decide +kernel
theorem d_M_isKnown_30 : decode b_M_isKnown 30 = .ok (.iload_n 0, 1) := by decide +kernel
theorem d_M_isKnown_31 : decode b_M_isKnown 31 = .ok (.bipush 31, 2) := by decide +kernel
theorem d_M_isKnown_33 : decode b_M_isKnown 33 = .ok (.if_icmp .le 9, 3) := by decide +kernel
theorem d_M_isKnown_36 : decode b_M_isKnown 36 = .ok (.iload_n 0, 1) := by decide +kernel
theorem d_M_isKnown_37 : decode b_M_isKnown 37 = .ok (.bipush 37, 2) := by decide +kernel
theorem d_M_isKnown_39 : decode b_M_isKnown 39 = .ok (.if_icmp .lt 75, 3) := by decide +kernel
theorem d_M_isKnown_42 : decode b_M_isKnown 42 = .ok (.iload_n 0, 1) := by decide +kernel
theorem d_M_isKnown_43 : decode b_M_isKnown 43 = .ok (.bipush 40, 2) := by decide +kernel
theorem d_M_isKnown_45 : decode b_M_isKnown 45 = .ok (.if_icmp .eq 69, 3) := by decide +kernel
theorem d_M_isKnown_48 : decode b_M_isKnown 48 = .ok (.iload_n 0, 1) := by decide +kernel
theorem d_M_isKnown_49 : decode b_M_isKnown 49 = .ok (.bipush 43, 2) := by decide +kernel
theorem d_M_isKnown_51 : decode b_M_isKnown 51 = .ok (.if_icmp .le 9, 3) := by decide +kernel
theorem d_M_isKnown_54 : decode b_M_isKnown 54 = .ok (.iload_n 0, 1) := by decide +kernel
theorem d_M_isKnown_55 : decode b_M_isKnown 55 = .ok (.bipush 48, 2) := by decide +kernel
theorem d_M_isKnown_57 : decode b_M_isKnown 57 = .ok (.if_icmp .lt 57, 3) := by decide +kernel
theorem d_M_isKnown_60 : decode b_M_isKnown 60 = .ok (.iload_n 0, 1) := by decide +kernel
theorem d_M_isKnown_61 : decode b_M_isKnown 61 = .ok (.bipush 54, 2) := by decide +kernel
theorem d_M_isKnown_63 : decode b_M_isKnown 63 = .ok (.if_icmp .eq 51, 3) := by decide +kernel
theorem d_M_isKnown_66 : decode b_M_isKnown 66 = .ok (.iload_n 0, 1) := by decide +kernel
theorem d_M_isKnown_67 : decode b_M_isKnown 67 = .ok (.bipush 58, 2) := by decide +kernel
theorem d_M_isKnown_69 : decode b_M_isKnown 69 = .ok (.if_icmp .eq 45, 3) := by decide +kernel
theorem d_M_isKnown_72 : decode b_M_isKnown 72 = .ok (.iload_n 0, 1) := by decide +kernel
theorem d_M_isKnown_73 : decode b_M_isKnown 73 = .ok (.bipush 59, 2) := by decide +kernel
theorem d_M_isKnown_75 : decode b_M_isKnown 75 = .ok (.if_icmp .eq 39, 3) := by decide +kernel
theorem d_M_isKnown_78 : decode b_M_isKnown 78 = .ok (.iload_n 0, 1) := by decide +kernel
theorem d_M_isKnown_79 : decode b_M_isKnown 79 = .ok (.bipush 62, 2) := by decide +kernel
theorem d_M_isKnown_81 : decode b_M_isKnown 81 = .ok (.if_icmp .le 9, 3) := by decide +kernel
theorem d_M_isKnown_84 : decode b_M_isKnown 84 = .ok (.iload_n 0, 1) := by decide +kernel
theorem d_M_isKnown_85 : decode b_M_isKnown 85 = .ok (.bipush 66, 2) := by decide +kernel
theorem d_M_isKnown_87 : decode b_M_isKnown 87 = .ok (.if_icmp .lt 27, 3) := by decide +kernel
theorem d_M_isKnown_90 : decode b_M_isKnown 90 = .ok (.iload_n 0, 1) := by decide +kernel
theorem d_M_isKnown_91 : decode b_M_isKnown 91 = .ok (.bipush 68, 2) := by decide +kernel
theorem d_M_isKnown_93 : decode b_M_isKnown 93 = .ok (.if_icmp .le 9, 3) := by decide +kernel
theorem d_M_isKnown_96 : decode b_M_isKnown 96 = .ok (.iload_n 0, 1) := by decide +kernel
theorem d_M_isKnown_97 : decode b_M_isKnown 97 = .ok (.bipush 80, 2) := by decide +kernel
theorem d_M_isKnown_99 : decode b_M_isKnown 99 = .ok (.if_icmp .lt 15, 3) := by decide +kernel
theorem d_M_isKnown_102 : decode b_M_isKnown 102 = .ok (.iload_n 0, 1) := by decide +kernel
theorem d_M_isKnown_103 : decode b_M_isKnown 103 = .ok (.bipush 102, 2) := by decide +kernel
theorem d_M_isKnown_105 : decode b_M_isKnown 105 = .ok (.if_icmp .le 13, 3) := by decide +kernel
theorem d_M_isKnown_108 : decode b_M_isKnown 108 = .ok (.iload_n 0, 1) := by decide +kernel
theorem d_M_isKnown_109 : decode b_M_isKnown 109 = .ok (.bipush 121, 2) := by decide +kernel
theorem d_M_isKnown_111 : decode b_M_isKnown 111 = .ok (.if_icmp .ge 7, 3) := by decide +kernel
theorem d_M_isKnown_114 : decode b_M_isKnown 114 = .ok (.iconst 1, 1) := by decide +kernel
theorem d_M_isKnown_115 : decode b_M_isKnown 115 = .ok (.goto 4, 3) := by decide +kernel
theorem d_M_isKnown_118 : decode b_M_isKnown 118 = .ok (.iconst 0, 1) := by decide +kernel
theorem d_M_isKnown_119 : decode b_M_isKnown 119 = .ok (.ireturn, 1) := by decide +kernel
theorem d_M_readNumbers_0 : decode b_M_readNumbers 0 = .ok (.aload_n 0, 1) := by decide +kernel
theorem d_M_readNumbers_1 : decode b_M_readNumbers 1 = .ok (.getfield 51, 3) := by decide +kernel
theorem d_M_readNumbers_4 : decode b_M_readNumbers 4 = .ok (.iload_n 1, 1) := by decide +kernel
theorem d_M_readNumbers_5 : decode b_M_readNumbers 5 = .ok (.iaload, 1) := by decide +kernel
theorem d_M_readNumbers_6 : decode b_M_readNumbers 6 = .ok (.istore_n 2, 1) := by decide +kernel
theorem d_M_readNumbers_7 : decode b_M_readNumbers 7 = .ok (.iload_n 2, 1) := by decide +kernel
theorem d_M_readNumbers_8 : decode b_M_readNumbers 8 = .ok (.iconst 2, 1) := by decide +kernel
theorem d_M_readNumbers_9 : decode b_M_readNumbers 9 = .ok (.if_icmp .lt 55, 3) := by decide +kernel
theorem d_M_readNumbers_12 : decode b_M_readNumbers 12 = .ok (.iload_n 2, 1) := by decide +kernel
theorem d_M_readNumbers_13 : decode b_M_readNumbers 13 = .ok (.iconst 4, 1) := by decide +kernel
theorem d_M_readNumbers_14 : decode b_M_readNumbers 14 = .ok (.if_icmp .gt 50, 3) := by decide +kernel
theorem d_M_readNumbers_17 : decode b_M_readNumbers 17 = .ok (.aload_n 0, 1) := by decide +kernel
theorem d_M_readNumbers_18 : decode b_M_readNumbers 18 = .ok (.invokevirtual 162, 3) := by decide +kernel
theorem d_M_readNumbers_21 : decode b_M_readNumbers 21 = .ok (.istore_n 3, 1) := by decide +kernel
theorem d_M_readNumbers_22 : decode b_M_readNumbers 22 = .ok (.aload_n 0, 1) := by decide +kernel
theorem d_M_readNumbers_23 : decode b_M_readNumbers 23 = .ok (.iload_n 3, 1) := by decide +kernel
theorem d_M_readNumbers_24 : decode b_M_readNumbers 24 = .ok (.bipush 64, 2) := by decide +kernel
theorem d_M_readNumbers_26 : decode b_M_readNumbers 26 = .ok (.if_icmp .eq 9, 3) := by decide +kernel
theorem d_M_readNumbers_29 : decode b_M_readNumbers 29 = .ok (.iload_n 3, 1) := by decide +kernel
theorem d_M_readNumbers_30 : decode b_M_readNumbers 30 = .ok (.bipush 127, 2) := by decide +kernel
theorem d_M_readNumbers_32 : decode b_M_readNumbers 32 = .ok (.if_icmp .ne 7, 3) := by decide +kernel
theorem d_M_readNumbers_35 : decode b_M_readNumbers 35 = .ok (.iconst 1, 1) := by decide +kernel
theorem d_M_readNumbers_36 : decode b_M_readNumbers 36 = .ok (.goto 4, 3) := by decide +kernel
theorem d_M_readNumbers_39 : decode b_M_readNumbers 39 = .ok (.iconst 0, 1) := by decide +kernel
theorem d_M_readNumbers_40 : decode b_M_readNumbers 40 = .ok (.iconst 2, 1) := by decide +kernel
theorem d_M_readNumbers_41 : decode b_M_readNumbers 41 = .ok (.invokevirtual 158, 3) := by decide +kernel
theorem d_M_readNumbers_44 : decode b_M_readNumbers 44 = .ok (.aload_n 0, 1) := by decide +kernel
theorem d_M_readNumbers_45 : decode b_M_readNumbers 45 = .ok (.getfield 54, 3) := by decide +kernel
theorem d_M_readNumbers_48 : decode b_M_readNumbers 48 = .ok (.iload_n 1, 1) := by decide +kernel
theorem d_M_readNumbers_49 : decode b_M_readNumbers 49 = .ok (.iload_n 3, 1) := by decide +kernel
theorem d_M_readNumbers_50 : decode b_M_readNumbers 50 = .ok (.bipush 127, 2) := by decide +kernel
theorem d_M_readNumbers_52 : decode b_M_readNumbers 52 = .ok (.if_icmp .ne 7, 3) := by decide +kernel
theorem d_M_readNumbers_55 : decode b_M_readNumbers 55 = .ok (.lconst 1, 1) := by decide +kernel
theorem d_M_readNumbers_56 : decode b_M_readNumbers 56 = .ok (.goto 4, 3) := by decide +kernel
theorem d_M_readNumbers_59 : decode b_M_readNumbers 59 = .ok (.lconst 0, 1) := by decide +kernel
theorem d_M_readNumbers_60 : decode b_M_readNumbers 60 = .ok (.lastore, 1) := by decide +kernel
theorem d_M_readNumbers_61 : decode b_M_readNumbers 61 = .ok (.goto 201, 3) := by decide +kernel
theorem d_M_readNumbers_64 : decode b_M_readNumbers 64 = .ok (.iload_n 2, 1) := by decide +kernel
theorem d_M_readNumbers_65 : decode b_M_readNumbers 65 = .ok (.bipush 14, 2) := by decide +kernel
theorem d_M_readNumbers_67 : decode b_M_readNumbers 67 = .ok (.if_icmp .ne 80, 3) := by decide +kernel
theorem d_M_readNumbers_70 : decode b_M_readNumbers 70 = .ok (.aload_n 0, 1) := by decide +kernel
theorem d_M_readNumbers_71 : decode b_M_readNumbers 71 = .ok (.getfield 54, 3) := by decide +kernel
theorem d_M_readNumbers_74 : decode b_M_readNumbers 74 = .ok (.iload_n 1, 1) := by decide +kernel
theorem d_M_readNumbers_75 : decode b_M_readNumbers 75 = .ok (.aload_n 0, 1) := by decide +kernel
theorem d_M_readNumbers_76 : decode b_M_readNumbers 76 = .ok (.bipush 8, 2) := by decide +kernel
theorem d_M_readNumbers_78 : decode b_M_readNumbers 78 = .ok (.invokevirtual 212, 3) := by decide +kernel
theorem d_M_readNumbers_81 : decode b_M_readNumbers 81 = .ok (.i2l, 1) := by decide +kernel
theorem d_M_readNumbers_82 : decode b_M_readNumbers 82 = .ok (.lastore, 1) := by decide +kernel
theorem d_M_readNumbers_83 : decode b_M_readNumbers 83 = .ok (.aload_n 0, 1) := by decide +kernel
theorem d_M_readNumbers_84 : decode b_M_readNumbers 84 = .ok (.getfield 57, 3) := by decide +kernel
theorem d_M_readNumbers_87 : decode b_M_readNumbers 87 = .ok (.iload_n 1, 1) := by decide +kernel
theorem d_M_readNumbers_88 : decode b_M_readNumbers 88 = .ok (.aload_n 0, 1) := by decide +kernel
theorem d_M_readNumbers_89 : decode b_M_readNumbers 89 = .ok (.getfield 273, 3) := by decide +kernel
theorem d_M_readNumbers_92 : decode b_M_readNumbers 92 = .ok (.i2l, 1) := by decide +kernel
theorem d_M_readNumbers_93 : decode b_M_readNumbers 93 = .ok (.lastore, 1) := by decide +kernel
theorem d_M_readNumbers_94 : decode b_M_readNumbers 94 = .ok (.lconst 0, 1) := by decide +kernel
theorem d_M_readNumbers_95 : decode b_M_readNumbers 95 = .ok (.lstore_n 3, 1) := by decide +kernel
theorem d_M_readNumbers_96 : decode b_M_readNumbers 96 = .ok (.lload_n 3, 1) := by decide +kernel
theorem d_M_readNumbers_97 : decode b_M_readNumbers 97 = .ok (.aload_n 0, 1) := by decide +kernel
theorem d_M_readNumbers_98 : decode b_M_readNumbers 98 = .ok (.getfield 54, 3) := by decide +kernel
theorem d_M_readNumbers_101 : decode b_M_readNumbers 101 = .ok (.iload_n 1, 1) := by decide +kernel
theorem d_M_readNumbers_102 : decode b_M_readNumbers 102 = .ok (.laload, 1) := by decide +kernel
theorem d_M_readNumbers_103 : decode b_M_readNumbers 103 = .ok (.lcmp, 1) := by decide +kernel
theorem d_M_readNumbers_104 : decode b_M_readNumbers 104 = .ok (.ifCond .gt 40, 3) := by decide +kernel
theorem d_M_readNumbers_107 : decode b_M_readNumbers 107 = .ok (.aload_n 0, 1) := by decide +kernel
theorem d_M_readNumbers_108 : decode b_M_readNumbers 108 = .ok (.getfield 149, 3) := by decide +kernel
theorem d_M_readNumbers_111 : decode b_M_readNumbers 111 = .ok (.ifCond .ne 33, 3) := by decide +kernel
theorem d_M_readNumbers_114 : decode b_M_readNumbers 114 = .ok (.aload_n 0, 1) := by decide +kernel
theorem d_M_readNumbers_115 : decode b_M_readNumbers 115 = .ok (.getfield 84, 3) := by decide +kernel
theorem d_M_readNumbers_118 : decode b_M_readNumbers 118 = .ok (.aload_n 0, 1) := by decide +kernel
theorem d_M_readNumbers_119 : decode b_M_readNumbers 119 = .ok (.getfield 273, 3) := by decide +kernel
theorem d_M_readNumbers_122 : decode b_M_readNumbers 122 = .ok (.aload_n 0, 1) := by decide +kernel
theorem d_M_readNumbers_123 : decode b_M_readNumbers 123 = .ok (.invokevirtual 168, 3) := by decide +kernel
theorem d_M_readNumbers_126 : decode b_M_readNumbers 126 = .ok (.lastore, 1) := by decide +kernel
theorem d_M_readNumbers_127 : decode b_M_readNumbers 127 = .ok (.aload_n 0, 1) := by decide +kernel
theorem d_M_readNumbers_128 : decode b_M_readNumbers 128 = .ok (.dup, 1) := by decide +kernel
theorem d_M_readNumbers_129 : decode b_M_readNumbers 129 = .ok (.getfield 273, 3) := by decide +kernel
theorem d_M_readNumbers_132 : decode b_M_readNumbers 132 = .ok (.iconst 1, 1) := by decide +kernel
theorem d_M_readNumbers_133 : decode b_M_readNumbers 133 = .ok (.iadd, 1) := by decide +kernel
theorem d_M_readNumbers_134 : decode b_M_readNumbers 134 = .ok (.putfield 273, 3) := by decide +kernel
theorem d_M_readNumbers_137 : decode b_M_readNumbers 137 = .ok (.lload_n 3, 1) := by decide +kernel
theorem d_M_readNumbers_138 : decode b_M_readNumbers 138 = .ok (.lconst 1, 1) := by decide +kernel
theorem d_M_readNumbers_139 : decode b_M_readNumbers 139 = .ok (.ladd, 1) := by decide +kernel
theorem d_M_readNumbers_140 : decode b_M_readNumbers 140 = .ok (.lstore_n 3, 1) := by decide +kernel
theorem d_M_readNumbers_141 : decode b_M_readNumbers 141 = .ok (.goto (-45), 3) := by decide +kernel
theorem d_M_readNumbers_144 : decode b_M_readNumbers 144 = .ok (.goto 118, 3) := by decide +kernel
theorem d_M_readNumbers_147 : decode b_M_readNumbers 147 = .ok (.iload_n 2, 1) := by decide +kernel
theorem d_M_readNumbers_148 : decode b_M_readNumbers 148 = .ok (.bipush 12, 2) := by decide +kernel
theorem d_M_readNumbers_150 : decode b_M_readNumbers 150 = .ok (.if_icmp .eq 27, 3) := by decide +kernel
theorem d_M_readNumbers_153 : decode b_M_readNumbers 153 = .ok (.iload_n 2, 1) := by decide +kernel
theorem d_M_readNumbers_154 : decode b_M_readNumbers 154 = .ok (.bipush 13, 2) := by decide +kernel
theorem d_M_readNumbers_156 : decode b_M_readNumbers 156 = .ok (.if_icmp .eq 21, 3) := by decide +kernel
theorem d_M_readNumbers_159 : decode b_M_readNumbers 159 = .ok (.iload_n 2, 1) := by decide +kernel
theorem d_M_readNumbers_160 : decode b_M_readNumbers 160 = .ok (.bipush 16, 2) := by decide +kernel
theorem d_M_readNumbers_162 : decode b_M_readNumbers 162 = .ok (.if_icmp .eq 15, 3) := by decide +kernel
theorem d_M_readNumbers_165 : decode b_M_readNumbers 165 = .ok (.iload_n 2, 1) := by decide +kernel
theorem d_M_readNumbers_166 : decode b_M_readNumbers 166 = .ok (.bipush 31, 2) := by decide +kernel
theorem d_M_readNumbers_168 : decode b_M_readNumbers 168 = .ok (.if_icmp .le 22, 3) := by decide +kernel
theorem d_M_readNumbers_171 : decode b_M_readNumbers 171 = .ok (.iload_n 2, 1) := by decide +kernel
theorem d_M_readNumbers_172 : decode b_M_readNumbers 172 = .ok (.bipush 37, 2) := by decide +kernel
theorem d_M_readNumbers_174 : decode b_M_readNumbers 174 = .ok (.if_icmp .ge 16, 3) := by decide +kernel
theorem d_M_readNumbers_177 : decode b_M_readNumbers 177 = .ok (.aload_n 0, 1) := by decide +kernel
theorem d_M_readNumbers_178 : decode b_M_readNumbers 178 = .ok (.getfield 54, 3) := by decide +kernel
theorem d_M_readNumbers_181 : decode b_M_readNumbers 181 = .ok (.iload_n 1, 1) := by decide +kernel
theorem d_M_readNumbers_182 : decode b_M_readNumbers 182 = .ok (.aload_n 0, 1) := by decide +kernel
theorem d_M_readNumbers_183 : decode b_M_readNumbers 183 = .ok (.invokevirtual 168, 3) := by decide +kernel
theorem d_M_readNumbers_186 : decode b_M_readNumbers 186 = .ok (.lastore, 1) := by decide +kernel
theorem d_M_readNumbers_187 : decode b_M_readNumbers 187 = .ok (.goto 75, 3) := by decide +kernel
theorem d_M_readNumbers_190 : decode b_M_readNumbers 190 = .ok (.iload_n 2, 1) := by decide +kernel
theorem d_M_readNumbers_191 : decode b_M_readNumbers 191 = .ok (.bipush 39, 2) := by decide +kernel
theorem d_M_readNumbers_193 : decode b_M_readNumbers 193 = .ok (.if_icmp .le 32, 3) := by decide +kernel
theorem d_M_readNumbers_196 : decode b_M_readNumbers 196 = .ok (.iload_n 2, 1) := by decide +kernel
theorem d_M_readNumbers_197 : decode b_M_readNumbers 197 = .ok (.bipush 60, 2) := by decide +kernel
theorem d_M_readNumbers_199 : decode b_M_readNumbers 199 = .ok (.if_icmp .ge 26, 3) := by decide +kernel
theorem d_M_readNumbers_202 : decode b_M_readNumbers 202 = .ok (.aload_n 0, 1) := by decide +kernel
theorem d_M_readNumbers_203 : decode b_M_readNumbers 203 = .ok (.getfield 54, 3) := by decide +kernel
theorem d_M_readNumbers_206 : decode b_M_readNumbers 206 = .ok (.iload_n 1, 1) := by decide +kernel
theorem d_M_readNumbers_207 : decode b_M_readNumbers 207 = .ok (.aload_n 0, 1) := by decide +kernel
theorem d_M_readNumbers_208 : decode b_M_readNumbers 208 = .ok (.invokevirtual 168, 3) := by decide +kernel
theorem d_M_readNumbers_211 : decode b_M_readNumbers 211 = .ok (.lastore, 1) := by decide +kernel
theorem d_M_readNumbers_212 : decode b_M_readNumbers 212 = .ok (.aload_n 0, 1) := by decide +kernel
theorem d_M_readNumbers_213 : decode b_M_readNumbers 213 = .ok (.getfield 57, 3) := by decide +kernel
theorem d_M_readNumbers_216 : decode b_M_readNumbers 216 = .ok (.iload_n 1, 1) := by decide +kernel
theorem d_M_readNumbers_217 : decode b_M_readNumbers 217 = .ok (.aload_n 0, 1) := by decide +kernel
theorem d_M_readNumbers_218 : decode b_M_readNumbers 218 = .ok (.invokevirtual 168, 3) := by decide +kernel
theorem d_M_readNumbers_221 : decode b_M_readNumbers 221 = .ok (.lastore, 1) := by decide +kernel
theorem d_M_readNumbers_222 : decode b_M_readNumbers 222 = .ok (.goto 40, 3) := by decide +kernel
theorem d_M_readNumbers_225 : decode b_M_readNumbers 225 = .ok (.iload_n 2, 1) := by decide +kernel
theorem d_M_readNumbers_226 : decode b_M_readNumbers 226 = .ok (.bipush 63, 2) := by decide +kernel
theorem d_M_readNumbers_228 : decode b_M_readNumbers 228 = .ok (.if_icmp .eq 9, 3) := by decide +kernel
theorem d_M_readNumbers_231 : decode b_M_readNumbers 231 = .ok (.iload_n 2, 1) := by decide +kernel
theorem d_M_readNumbers_232 : decode b_M_readNumbers 232 = .ok (.bipush 64, 2) := by decide +kernel
theorem d_M_readNumbers_234 : decode b_M_readNumbers 234 = .ok (.if_icmp .ne 11, 3) := by decide +kernel
theorem d_M_readNumbers_237 : decode b_M_readNumbers 237 = .ok (.aload_n 0, 1) := by decide +kernel
theorem d_M_readNumbers_238 : decode b_M_readNumbers 238 = .ok (.iconst 0, 1) := by decide +kernel
theorem d_M_readNumbers_239 : decode b_M_readNumbers 239 = .ok (.invokevirtual 172, 3) := by decide +kernel
theorem d_M_readNumbers_242 : decode b_M_readNumbers 242 = .ok (.goto 20, 3) := by decide +kernel
theorem d_M_readNumbers_245 : decode b_M_readNumbers 245 = .ok (.iload_n 2, 1) := by decide +kernel
theorem d_M_readNumbers_246 : decode b_M_readNumbers 246 = .ok (.bipush 65, 2) := by decide +kernel
theorem d_M_readNumbers_248 : decode b_M_readNumbers 248 = .ok (.if_icmp .ne 14, 3) := by decide +kernel
theorem d_M_readNumbers_251 : decode b_M_readNumbers 251 = .ok (.aload_n 0, 1) := by decide +kernel
theorem d_M_readNumbers_252 : decode b_M_readNumbers 252 = .ok (.getfield 54, 3) := by decide +kernel
theorem d_M_readNumbers_255 : decode b_M_readNumbers 255 = .ok (.iload_n 1, 1) := by decide +kernel
theorem d_M_readNumbers_256 : decode b_M_readNumbers 256 = .ok (.aload_n 0, 1) := by decide +kernel
theorem d_M_readNumbers_257 : decode b_M_readNumbers 257 = .ok (.invokevirtual 176, 3) := by decide +kernel
theorem d_M_readNumbers_260 : decode b_M_readNumbers 260 = .ok (.i2l, 1) := by decide +kernel
theorem d_M_readNumbers_261 : decode b_M_readNumbers 261 = .ok (.lastore, 1) := by decide +kernel
theorem d_M_readNumbers_262 : decode b_M_readNumbers 262 = .ok (.return_, 1) := by decide +kernel
