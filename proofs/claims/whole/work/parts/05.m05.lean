theorem d_M_start_0 : decode b_M_start 0 = .ok (.aload_n 0, 1) := by decide +kernel
theorem d_M_start_1 : decode b_M_start 1 = .ok (.iconst 0, 1) := by decide +kernel
theorem d_M_start_2 : decode b_M_start 2 = .ok (.putfield 120, 3) := by decide +kernel
theorem d_M_start_5 : decode b_M_start 5 = .ok (.aload_n 0, 1) := by decide +kernel
theorem d_M_start_6 : decode b_M_start 6 = .ok (.getfield 127, 3) := by decide +kernel
theorem d_M_start_9 : decode b_M_start 9 = .ok (.ifCond .eq 10, 3) := by decide +kernel
theorem d_M_start_12 : decode b_M_start 12 = .ok (.aload_n 0, 1) := by decide +kernel
theorem d_M_start_13 : decode b_M_start 13 = .ok (.getfield 134, 3) := by decide +kernel
theorem d_M_start_16 : decode b_M_start 16 = .ok (.ifCond .eq 5, 3) := by decide +kernel
theorem d_M_start_19 : decode b_M_start 19 = .ok (.iconst 1, 1) := by decide +kernel
theorem d_M_start_20 : decode b_M_start 20 = .ok (.ireturn, 1) := by decide +kernel
theorem d_M_start_21 : decode b_M_start 21 = .ok (.iload_n 1, 1) := by decide +kernel
theorem d_M_start_22 : decode b_M_start 22 = .ok (.ifCond .lt 11, 3) := by decide +kernel
theorem d_M_start_25 : decode b_M_start 25 = .ok (.iload_n 1, 1) := by decide +kernel
theorem d_M_start_26 : decode b_M_start 26 = .ok (.aload_n 0, 1) := by decide +kernel
theorem d_M_start_27 : decode b_M_start 27 = .ok (.getfield 188, 3) := by decide +kernel
theorem d_M_start_30 : decode b_M_start 30 = .ok (.if_icmp .lt 5, 3) := by decide +kernel
theorem d_M_start_33 : decode b_M_start 33 = .ok (.iconst 2, 1) := by decide +kernel
theorem d_M_start_34 : decode b_M_start 34 = .ok (.ireturn, 1) := by decide +kernel
theorem d_M_start_35 : decode b_M_start 35 = .ok (.aload_n 0, 1) := by decide +kernel
theorem d_M_start_36 : decode b_M_start 36 = .ok (.getfield 131, 3) := by decide +kernel
theorem d_M_start_39 : decode b_M_start 39 = .ok (.aload_n 0, 1) := by decide +kernel
theorem d_M_start_40 : decode b_M_start 40 = .ok (.iload_n 1, 1) := by decide +kernel
theorem d_M_start_41 : decode b_M_start 41 = .ok (.invokevirtual 258, 3) := by decide +kernel
theorem d_M_start_44 : decode b_M_start 44 = .ok (.if_icmp .eq 5, 3) := by decide +kernel
theorem d_M_start_47 : decode b_M_start 47 = .ok (.iconst 3, 1) := by decide +kernel
theorem d_M_start_48 : decode b_M_start 48 = .ok (.ireturn, 1) := by decide +kernel
theorem d_M_start_49 : decode b_M_start 49 = .ok (.iload_n 2, 1) := by decide +kernel
theorem d_M_start_50 : decode b_M_start 50 = .ok (.ifCond .eq 17, 3) := by decide +kernel
theorem d_M_start_53 : decode b_M_start 53 = .ok (.iload_n 2, 1) := by decide +kernel
theorem d_M_start_54 : decode b_M_start 54 = .ok (.iconst 1, 1) := by decide +kernel
theorem d_M_start_55 : decode b_M_start 55 = .ok (.if_icmp .ne 10, 3) := by decide +kernel
theorem d_M_start_58 : decode b_M_start 58 = .ok (.aload_n 0, 1) := by decide +kernel
theorem d_M_start_59 : decode b_M_start 59 = .ok (.getfield 140, 3) := by decide +kernel
theorem d_M_start_62 : decode b_M_start 62 = .ok (.ifCond .ne 5, 3) := by decide +kernel
theorem d_M_start_65 : decode b_M_start 65 = .ok (.iconst 4, 1) := by decide +kernel
theorem d_M_start_66 : decode b_M_start 66 = .ok (.ireturn, 1) := by decide +kernel
theorem d_M_start_67 : decode b_M_start 67 = .ok (.iconst 0, 1) := by decide +kernel
theorem d_M_start_68 : decode b_M_start 68 = .ok (.istore_n 3, 1) := by decide +kernel
theorem d_M_start_69 : decode b_M_start 69 = .ok (.iload_n 3, 1) := by decide +kernel
theorem d_M_start_70 : decode b_M_start 70 = .ok (.aload_n 0, 1) := by decide +kernel
theorem d_M_start_71 : decode b_M_start 71 = .ok (.getfield 131, 3) := by decide +kernel
theorem d_M_start_74 : decode b_M_start 74 = .ok (.if_icmp .ge 21, 3) := by decide +kernel
theorem d_M_start_77 : decode b_M_start 77 = .ok (.aload_n 0, 1) := by decide +kernel
theorem d_M_start_78 : decode b_M_start 78 = .ok (.getfield 114, 3) := by decide +kernel
theorem d_M_start_81 : decode b_M_start 81 = .ok (.iload_n 3, 1) := by decide +kernel
theorem d_M_start_82 : decode b_M_start 82 = .ok (.aload_n 0, 1) := by decide +kernel
theorem d_M_start_83 : decode b_M_start 83 = .ok (.getfield 102, 3) := by decide +kernel
theorem d_M_start_86 : decode b_M_start 86 = .ok (.iload_n 3, 1) := by decide +kernel
theorem d_M_start_87 : decode b_M_start 87 = .ok (.iaload, 1) := by decide +kernel
theorem d_M_start_88 : decode b_M_start 88 = .ok (.iastore, 1) := by decide +kernel
theorem d_M_start_89 : decode b_M_start 89 = .ok (.iinc 3 1, 3) := by decide +kernel
theorem d_M_start_92 : decode b_M_start 92 = .ok (.goto (-23), 3) := by decide +kernel
theorem d_M_start_95 : decode b_M_start 95 = .ok (.aload_n 0, 1) := by decide +kernel
theorem d_M_start_96 : decode b_M_start 96 = .ok (.aload_n 0, 1) := by decide +kernel
theorem d_M_start_97 : decode b_M_start 97 = .ok (.getfield 131, 3) := by decide +kernel
theorem d_M_start_100 : decode b_M_start 100 = .ok (.putfield 343, 3) := by decide +kernel
theorem d_M_start_103 : decode b_M_start 103 = .ok (.aload_n 0, 1) := by decide +kernel
theorem d_M_start_104 : decode b_M_start 104 = .ok (.iconst 0, 1) := by decide +kernel
theorem d_M_start_105 : decode b_M_start 105 = .ok (.putfield 340, 3) := by decide +kernel
theorem d_M_start_108 : decode b_M_start 108 = .ok (.aload_n 0, 1) := by decide +kernel
theorem d_M_start_109 : decode b_M_start 109 = .ok (.iload_n 1, 1) := by decide +kernel
theorem d_M_start_110 : decode b_M_start 110 = .ok (.invokevirtual 346, 3) := by decide +kernel
theorem d_M_start_113 : decode b_M_start 113 = .ok (.aload_n 0, 1) := by decide +kernel
theorem d_M_start_114 : decode b_M_start 114 = .ok (.iconst 0, 1) := by decide +kernel
theorem d_M_start_115 : decode b_M_start 115 = .ok (.putfield 131, 3) := by decide +kernel
theorem d_M_start_118 : decode b_M_start 118 = .ok (.aload_n 0, 1) := by decide +kernel
theorem d_M_start_119 : decode b_M_start 119 = .ok (.iconst 1, 1) := by decide +kernel
theorem d_M_start_120 : decode b_M_start 120 = .ok (.putfield 134, 3) := by decide +kernel
theorem d_M_start_123 : decode b_M_start 123 = .ok (.aload_n 0, 1) := by decide +kernel
theorem d_M_start_124 : decode b_M_start 124 = .ok (.iconst 0, 1) := by decide +kernel
theorem d_M_start_125 : decode b_M_start 125 = .ok (.putfield 137, 3) := by decide +kernel
theorem d_M_start_128 : decode b_M_start 128 = .ok (.iconst 0, 1) := by decide +kernel
theorem d_M_start_129 : decode b_M_start 129 = .ok (.ireturn, 1) := by decide +kernel
theorem d_M_leave_0 : decode b_M_leave 0 = .ok (.aload_n 0, 1) := by decide +kernel
theorem d_M_leave_1 : decode b_M_leave 1 = .ok (.getfield 105, 3) := by decide +kernel
theorem d_M_leave_4 : decode b_M_leave 4 = .ok (.aload_n 0, 1) := by decide +kernel
theorem d_M_leave_5 : decode b_M_leave 5 = .ok (.getfield 340, 3) := by decide +kernel
theorem d_M_leave_8 : decode b_M_leave 8 = .ok (.iaload, 1) := by decide +kernel
theorem d_M_leave_9 : decode b_M_leave 9 = .ok (.istore_n 1, 1) := by decide +kernel
theorem d_M_leave_10 : decode b_M_leave 10 = .ok (.aload_n 0, 1) := by decide +kernel
theorem d_M_leave_11 : decode b_M_leave 11 = .ok (.iload_n 1, 1) := by decide +kernel
theorem d_M_leave_12 : decode b_M_leave 12 = .ok (.invokevirtual 292, 3) := by decide +kernel
theorem d_M_leave_15 : decode b_M_leave 15 = .ok (.istore_n 2, 1) := by decide +kernel
theorem d_M_leave_16 : decode b_M_leave 16 = .ok (.iload_n 2, 1) := by decide +kernel
theorem d_M_leave_17 : decode b_M_leave 17 = .ok (.ifCond .le 17, 3) := by decide +kernel
theorem d_M_leave_20 : decode b_M_leave 20 = .ok (.aload_n 0, 1) := by decide +kernel
theorem d_M_leave_21 : decode b_M_leave 21 = .ok (.getfield 114, 3) := by decide +kernel
theorem d_M_leave_24 : decode b_M_leave 24 = .ok (.aload_n 0, 1) := by decide +kernel
theorem d_M_leave_25 : decode b_M_leave 25 = .ok (.getfield 343, 3) := by decide +kernel
theorem d_M_leave_28 : decode b_M_leave 28 = .ok (.iconst 1, 1) := by decide +kernel
theorem d_M_leave_29 : decode b_M_leave 29 = .ok (.isub, 1) := by decide +kernel
theorem d_M_leave_30 : decode b_M_leave 30 = .ok (.iaload, 1) := by decide +kernel
theorem d_M_leave_31 : decode b_M_leave 31 = .ok (.goto 4, 3) := by decide +kernel
theorem d_M_leave_34 : decode b_M_leave 34 = .ok (.iconst 0, 1) := by decide +kernel
theorem d_M_leave_35 : decode b_M_leave 35 = .ok (.istore_n 3, 1) := by decide +kernel
theorem d_M_leave_36 : decode b_M_leave 36 = .ok (.aload_n 0, 1) := by decide +kernel
theorem d_M_leave_37 : decode b_M_leave 37 = .ok (.aload_n 0, 1) := by decide +kernel
theorem d_M_leave_38 : decode b_M_leave 38 = .ok (.getfield 111, 3) := by decide +kernel
theorem d_M_leave_41 : decode b_M_leave 41 = .ok (.aload_n 0, 1) := by decide +kernel
theorem d_M_leave_42 : decode b_M_leave 42 = .ok (.getfield 340, 3) := by decide +kernel
theorem d_M_leave_45 : decode b_M_leave 45 = .ok (.iaload, 1) := by decide +kernel
theorem d_M_leave_46 : decode b_M_leave 46 = .ok (.putfield 343, 3) := by decide +kernel
theorem d_M_leave_49 : decode b_M_leave 49 = .ok (.aload_n 0, 1) := by decide +kernel
theorem d_M_leave_50 : decode b_M_leave 50 = .ok (.dup, 1) := by decide +kernel
theorem d_M_leave_51 : decode b_M_leave 51 = .ok (.getfield 340, 3) := by decide +kernel
theorem d_M_leave_54 : decode b_M_leave 54 = .ok (.iconst 1, 1) := by decide +kernel
theorem d_M_leave_55 : decode b_M_leave 55 = .ok (.isub, 1) := by decide +kernel
theorem d_M_leave_56 : decode b_M_leave 56 = .ok (.putfield 340, 3) := by decide +kernel
theorem d_M_leave_59 : decode b_M_leave 59 = .ok (.aload_n 0, 1) := by decide +kernel
theorem d_M_leave_60 : decode b_M_leave 60 = .ok (.getfield 340, 3) := by decide +kernel
theorem d_M_leave_63 : decode b_M_leave 63 = .ok (.ifCond .le 26, 3) := by decide +kernel
theorem d_M_leave_66 : decode b_M_leave 66 = .ok (.aload_n 0, 1) := by decide +kernel
theorem d_M_leave_67 : decode b_M_leave 67 = .ok (.getfield 114, 3) := by decide +kernel
theorem d_M_leave_70 : decode b_M_leave 70 = .ok (.aload_n 0, 1) := by decide +kernel
theorem d_M_leave_71 : decode b_M_leave 71 = .ok (.getfield 343, 3) := by decide +kernel
theorem d_M_leave_74 : decode b_M_leave 74 = .ok (.iload_n 3, 1) := by decide +kernel
theorem d_M_leave_75 : decode b_M_leave 75 = .ok (.iastore, 1) := by decide +kernel
theorem d_M_leave_76 : decode b_M_leave 76 = .ok (.aload_n 0, 1) := by decide +kernel
theorem d_M_leave_77 : decode b_M_leave 77 = .ok (.dup, 1) := by decide +kernel
theorem d_M_leave_78 : decode b_M_leave 78 = .ok (.getfield 343, 3) := by decide +kernel
theorem d_M_leave_81 : decode b_M_leave 81 = .ok (.iload_n 2, 1) := by decide +kernel
theorem d_M_leave_82 : decode b_M_leave 82 = .ok (.iadd, 1) := by decide +kernel
theorem d_M_leave_83 : decode b_M_leave 83 = .ok (.putfield 343, 3) := by decide +kernel
theorem d_M_leave_86 : decode b_M_leave 86 = .ok (.goto 13, 3) := by decide +kernel
theorem d_M_leave_89 : decode b_M_leave 89 = .ok (.aload_n 0, 1) := by decide +kernel
theorem d_M_leave_90 : decode b_M_leave 90 = .ok (.iconst 0, 1) := by decide +kernel
theorem d_M_leave_91 : decode b_M_leave 91 = .ok (.putfield 134, 3) := by decide +kernel
theorem d_M_leave_94 : decode b_M_leave 94 = .ok (.aload_n 0, 1) := by decide +kernel
theorem d_M_leave_95 : decode b_M_leave 95 = .ok (.iload_n 3, 1) := by decide +kernel
theorem d_M_leave_96 : decode b_M_leave 96 = .ok (.putfield 137, 3) := by decide +kernel
theorem d_M_leave_99 : decode b_M_leave 99 = .ok (.return_, 1) := by decide +kernel
theorem d_M_settle_0 : decode b_M_settle 0 = .ok (.iconst 1, 1) := by decide +kernel
theorem d_M_settle_1 : decode b_M_settle 1 = .ok (.istore_n 1, 1) := by decide +kernel
theorem d_M_settle_2 : decode b_M_settle 2 = .ok (.aload_n 0, 1) := by decide +kernel
theorem d_M_settle_3 : decode b_M_settle 3 = .ok (.getfield 134, 3) := by decide +kernel
theorem d_M_settle_6 : decode b_M_settle 6 = .ok (.ifCond .eq 139, 3) := by decide +kernel
theorem d_M_settle_9 : decode b_M_settle 9 = .ok (.iload_n 1, 1) := by decide +kernel
theorem d_M_settle_10 : decode b_M_settle 10 = .ok (.ifCond .eq 135, 3) := by decide +kernel
theorem d_M_settle_13 : decode b_M_settle 13 = .ok (.aload_n 0, 1) := by decide +kernel
theorem d_M_settle_14 : decode b_M_settle 14 = .ok (.getfield 108, 3) := by decide +kernel
theorem d_M_settle_17 : decode b_M_settle 17 = .ok (.aload_n 0, 1) := by decide +kernel
theorem d_M_settle_18 : decode b_M_settle 18 = .ok (.getfield 340, 3) := by decide +kernel
theorem d_M_settle_21 : decode b_M_settle 21 = .ok (.iaload, 1) := by decide +kernel
theorem d_M_settle_22 : decode b_M_settle 22 = .ok (.istore_n 2, 1) := by decide +kernel
theorem d_M_settle_23 : decode b_M_settle 23 = .ok (.aload_n 0, 1) := by decide +kernel
theorem d_M_settle_24 : decode b_M_settle 24 = .ok (.getfield 51, 3) := by decide +kernel
theorem d_M_settle_27 : decode b_M_settle 27 = .ok (.iload_n 2, 1) := by decide +kernel
theorem d_M_settle_28 : decode b_M_settle 28 = .ok (.iaload, 1) := by decide +kernel
theorem d_M_settle_29 : decode b_M_settle 29 = .ok (.bipush 11, 2) := by decide +kernel
theorem d_M_settle_31 : decode b_M_settle 31 = .ok (.if_icmp .eq 13, 3) := by decide +kernel
theorem d_M_settle_34 : decode b_M_settle 34 = .ok (.aload_n 0, 1) := by decide +kernel
theorem d_M_settle_35 : decode b_M_settle 35 = .ok (.getfield 51, 3) := by decide +kernel
theorem d_M_settle_38 : decode b_M_settle 38 = .ok (.iload_n 2, 1) := by decide +kernel
theorem d_M_settle_39 : decode b_M_settle 39 = .ok (.iaload, 1) := by decide +kernel
theorem d_M_settle_40 : decode b_M_settle 40 = .ok (.iconst 5, 1) := by decide +kernel
theorem d_M_settle_41 : decode b_M_settle 41 = .ok (.if_icmp .ne 7, 3) := by decide +kernel
theorem d_M_settle_44 : decode b_M_settle 44 = .ok (.iconst 1, 1) := by decide +kernel
theorem d_M_settle_45 : decode b_M_settle 45 = .ok (.goto 4, 3) := by decide +kernel
theorem d_M_settle_48 : decode b_M_settle 48 = .ok (.iconst 0, 1) := by decide +kernel
theorem d_M_settle_49 : decode b_M_settle 49 = .ok (.istore_n 1, 1) := by decide +kernel
theorem d_M_settle_50 : decode b_M_settle 50 = .ok (.aload_n 0, 1) := by decide +kernel
theorem d_M_settle_51 : decode b_M_settle 51 = .ok (.getfield 51, 3) := by decide +kernel
theorem d_M_settle_54 : decode b_M_settle 54 = .ok (.iload_n 2, 1) := by decide +kernel
theorem d_M_settle_55 : decode b_M_settle 55 = .ok (.iaload, 1) := by decide +kernel
theorem d_M_settle_56 : decode b_M_settle 56 = .ok (.iconst 5, 1) := by decide +kernel
theorem d_M_settle_57 : decode b_M_settle 57 = .ok (.if_icmp .ne 26, 3) := by decide +kernel
theorem d_M_settle_60 : decode b_M_settle 60 = .ok (.aload_n 0, 1) := by decide +kernel
theorem d_M_settle_61 : decode b_M_settle 61 = .ok (.getfield 108, 3) := by decide +kernel
theorem d_M_settle_64 : decode b_M_settle 64 = .ok (.aload_n 0, 1) := by decide +kernel
theorem d_M_settle_65 : decode b_M_settle 65 = .ok (.getfield 340, 3) := by decide +kernel
theorem d_M_settle_68 : decode b_M_settle 68 = .ok (.aload_n 0, 1) := by decide +kernel
theorem d_M_settle_69 : decode b_M_settle 69 = .ok (.getfield 63, 3) := by decide +kernel
theorem d_M_settle_72 : decode b_M_settle 72 = .ok (.aload_n 0, 1) := by decide +kernel
theorem d_M_settle_73 : decode b_M_settle 73 = .ok (.getfield 60, 3) := by decide +kernel
theorem d_M_settle_76 : decode b_M_settle 76 = .ok (.iload_n 2, 1) := by decide +kernel
theorem d_M_settle_77 : decode b_M_settle 77 = .ok (.iaload, 1) := by decide +kernel
theorem d_M_settle_78 : decode b_M_settle 78 = .ok (.iaload, 1) := by decide +kernel
theorem d_M_settle_79 : decode b_M_settle 79 = .ok (.iastore, 1) := by decide +kernel
theorem d_M_settle_80 : decode b_M_settle 80 = .ok (.goto 62, 3) := by decide +kernel
theorem d_M_settle_83 : decode b_M_settle 83 = .ok (.aload_n 0, 1) := by decide +kernel
theorem d_M_settle_84 : decode b_M_settle 84 = .ok (.getfield 51, 3) := by decide +kernel
theorem d_M_settle_87 : decode b_M_settle 87 = .ok (.iload_n 2, 1) := by decide +kernel
theorem d_M_settle_88 : decode b_M_settle 88 = .ok (.iaload, 1) := by decide +kernel
theorem d_M_settle_89 : decode b_M_settle 89 = .ok (.bipush 11, 2) := by decide +kernel
theorem d_M_settle_91 : decode b_M_settle 91 = .ok (.if_icmp .ne 28, 3) := by decide +kernel
theorem d_M_settle_94 : decode b_M_settle 94 = .ok (.iload_n 2, 1) := by decide +kernel
theorem d_M_settle_95 : decode b_M_settle 95 = .ok (.aload_n 0, 1) := by decide +kernel
theorem d_M_settle_96 : decode b_M_settle 96 = .ok (.getfield 78, 3) := by decide +kernel
theorem d_M_settle_99 : decode b_M_settle 99 = .ok (.aload_n 0, 1) := by decide +kernel
theorem d_M_settle_100 : decode b_M_settle 100 = .ok (.getfield 105, 3) := by decide +kernel
theorem d_M_settle_103 : decode b_M_settle 103 = .ok (.aload_n 0, 1) := by decide +kernel
theorem d_M_settle_104 : decode b_M_settle 104 = .ok (.getfield 340, 3) := by decide +kernel
theorem d_M_settle_107 : decode b_M_settle 107 = .ok (.iaload, 1) := by decide +kernel
theorem d_M_settle_108 : decode b_M_settle 108 = .ok (.iaload, 1) := by decide +kernel
theorem d_M_settle_109 : decode b_M_settle 109 = .ok (.if_icmp .ne 10, 3) := by decide +kernel
theorem d_M_settle_112 : decode b_M_settle 112 = .ok (.aload_n 0, 1) := by decide +kernel
theorem d_M_settle_113 : decode b_M_settle 113 = .ok (.invokevirtual 349, 3) := by decide +kernel
theorem d_M_settle_116 : decode b_M_settle 116 = .ok (.goto 26, 3) := by decide +kernel
theorem d_M_settle_119 : decode b_M_settle 119 = .ok (.aload_n 0, 1) := by decide +kernel
theorem d_M_settle_120 : decode b_M_settle 120 = .ok (.getfield 51, 3) := by decide +kernel
theorem d_M_settle_123 : decode b_M_settle 123 = .ok (.iload_n 2, 1) := by decide +kernel
theorem d_M_settle_124 : decode b_M_settle 124 = .ok (.iaload, 1) := by decide +kernel
theorem d_M_settle_125 : decode b_M_settle 125 = .ok (.bipush 11, 2) := by decide +kernel
theorem d_M_settle_127 : decode b_M_settle 127 = .ok (.if_icmp .ne 15, 3) := by decide +kernel
theorem d_M_settle_130 : decode b_M_settle 130 = .ok (.aload_n 0, 1) := by decide +kernel
theorem d_M_settle_131 : decode b_M_settle 131 = .ok (.getfield 108, 3) := by decide +kernel
theorem d_M_settle_134 : decode b_M_settle 134 = .ok (.aload_n 0, 1) := by decide +kernel
theorem d_M_settle_135 : decode b_M_settle 135 = .ok (.getfield 340, 3) := by decide +kernel
theorem d_M_settle_138 : decode b_M_settle 138 = .ok (.iload_n 2, 1) := by decide +kernel
theorem d_M_settle_139 : decode b_M_settle 139 = .ok (.iconst 1, 1) := by decide +kernel
theorem d_M_settle_140 : decode b_M_settle 140 = .ok (.iadd, 1) := by decide +kernel
theorem d_M_settle_141 : decode b_M_settle 141 = .ok (.iastore, 1) := by decide +kernel
theorem d_M_settle_142 : decode b_M_settle 142 = .ok (.goto (-140), 3) := by decide +kernel
theorem d_M_settle_145 : decode b_M_settle 145 = .ok (.return_, 1) := by decide +kernel
theorem d_M_pull_0 : decode b_M_pull 0 = .ok (.aload_n 0, 1) := by decide +kernel
theorem d_M_pull_1 : decode b_M_pull 1 = .ok (.dup, 1) := by decide +kernel
theorem d_M_pull_2 : decode b_M_pull 2 = .ok (.getfield 343, 3) := by decide +kernel
theorem d_M_pull_5 : decode b_M_pull 5 = .ok (.iconst 1, 1) := by decide +kernel
theorem d_M_pull_6 : decode b_M_pull 6 = .ok (.isub, 1) := by decide +kernel
theorem d_M_pull_7 : decode b_M_pull 7 = .ok (.putfield 343, 3) := by decide +kernel
theorem d_M_pull_10 : decode b_M_pull 10 = .ok (.aload_n 0, 1) := by decide +kernel
theorem d_M_pull_11 : decode b_M_pull 11 = .ok (.getfield 114, 3) := by decide +kernel
theorem d_M_pull_14 : decode b_M_pull 14 = .ok (.aload_n 0, 1) := by decide +kernel
theorem d_M_pull_15 : decode b_M_pull 15 = .ok (.getfield 343, 3) := by decide +kernel
theorem d_M_pull_18 : decode b_M_pull 18 = .ok (.iaload, 1) := by decide +kernel
theorem d_M_pull_19 : decode b_M_pull 19 = .ok (.ireturn, 1) := by decide +kernel
theorem d_M_jump_0 : decode b_M_jump 0 = .ok (.aload_n 0, 1) := by decide +kernel
theorem d_M_jump_1 : decode b_M_jump 1 = .ok (.getfield 60, 3) := by decide +kernel
theorem d_M_jump_4 : decode b_M_jump 4 = .ok (.iload_n 1, 1) := by decide +kernel
theorem d_M_jump_5 : decode b_M_jump 5 = .ok (.iaload, 1) := by decide +kernel
theorem d_M_jump_6 : decode b_M_jump 6 = .ok (.istore 4, 2) := by decide +kernel
theorem d_M_jump_8 : decode b_M_jump 8 = .ok (.lconst 0, 1) := by decide +kernel
theorem d_M_jump_9 : decode b_M_jump 9 = .ok (.lstore 5, 2) := by decide +kernel
theorem d_M_jump_11 : decode b_M_jump 11 = .ok (.lload 5, 2) := by decide +kernel
theorem d_M_jump_13 : decode b_M_jump 13 = .ok (.lload_n 2, 1) := by decide +kernel
theorem d_M_jump_14 : decode b_M_jump 14 = .ok (.lcmp, 1) := by decide +kernel
theorem d_M_jump_15 : decode b_M_jump 15 = .ok (.ifCond .ge 27, 3) := by decide +kernel
theorem d_M_jump_18 : decode b_M_jump 18 = .ok (.iload 4, 2) := by decide +kernel
theorem d_M_jump_20 : decode b_M_jump 20 = .ok (.iconst (-1), 1) := by decide +kernel
theorem d_M_jump_21 : decode b_M_jump 21 = .ok (.if_icmp .eq 21, 3) := by decide +kernel
theorem d_M_jump_24 : decode b_M_jump 24 = .ok (.aload_n 0, 1) := by decide +kernel
theorem d_M_jump_25 : decode b_M_jump 25 = .ok (.getfield 60, 3) := by decide +kernel
theorem d_M_jump_28 : decode b_M_jump 28 = .ok (.iload 4, 2) := by decide +kernel
theorem d_M_jump_30 : decode b_M_jump 30 = .ok (.iaload, 1) := by decide +kernel
theorem d_M_jump_31 : decode b_M_jump 31 = .ok (.istore 4, 2) := by decide +kernel
theorem d_M_jump_33 : decode b_M_jump 33 = .ok (.lload 5, 2) := by decide +kernel
theorem d_M_jump_35 : decode b_M_jump 35 = .ok (.lconst 1, 1) := by decide +kernel
theorem d_M_jump_36 : decode b_M_jump 36 = .ok (.ladd, 1) := by decide +kernel
theorem d_M_jump_37 : decode b_M_jump 37 = .ok (.lstore 5, 2) := by decide +kernel
theorem d_M_jump_39 : decode b_M_jump 39 = .ok (.goto (-28), 3) := by decide +kernel
theorem d_M_jump_42 : decode b_M_jump 42 = .ok (.aload_n 0, 1) := by decide +kernel
theorem d_M_jump_43 : decode b_M_jump 43 = .ok (.getfield 105, 3) := by decide +kernel
theorem d_M_jump_46 : decode b_M_jump 46 = .ok (.aload_n 0, 1) := by decide +kernel
theorem d_M_jump_47 : decode b_M_jump 47 = .ok (.getfield 340, 3) := by decide +kernel
theorem d_M_jump_50 : decode b_M_jump 50 = .ok (.iaload, 1) := by decide +kernel
theorem d_M_jump_51 : decode b_M_jump 51 = .ok (.istore 5, 2) := by decide +kernel
theorem d_M_jump_53 : decode b_M_jump 53 = .ok (.iload 4, 2) := by decide +kernel
theorem d_M_jump_55 : decode b_M_jump 55 = .ok (.iconst (-1), 1) := by decide +kernel
theorem d_M_jump_56 : decode b_M_jump 56 = .ok (.if_icmp .ne 20, 3) := by decide +kernel
theorem d_M_jump_59 : decode b_M_jump 59 = .ok (.aload_n 0, 1) := by decide +kernel
theorem d_M_jump_60 : decode b_M_jump 60 = .ok (.getfield 108, 3) := by decide +kernel
theorem d_M_jump_63 : decode b_M_jump 63 = .ok (.aload_n 0, 1) := by decide +kernel
theorem d_M_jump_64 : decode b_M_jump 64 = .ok (.getfield 340, 3) := by decide +kernel
theorem d_M_jump_67 : decode b_M_jump 67 = .ok (.aload_n 0, 1) := by decide +kernel
theorem d_M_jump_68 : decode b_M_jump 68 = .ok (.getfield 78, 3) := by decide +kernel
theorem d_M_jump_71 : decode b_M_jump 71 = .ok (.iload 5, 2) := by decide +kernel
theorem d_M_jump_73 : decode b_M_jump 73 = .ok (.iaload, 1) := by decide +kernel
theorem d_M_jump_74 : decode b_M_jump 74 = .ok (.iastore, 1) := by decide +kernel
theorem d_M_jump_75 : decode b_M_jump 75 = .ok (.return_, 1) := by decide +kernel
theorem d_M_jump_76 : decode b_M_jump 76 = .ok (.aload_n 0, 1) := by decide +kernel
theorem d_M_jump_77 : decode b_M_jump 77 = .ok (.getfield 51, 3) := by decide +kernel
theorem d_M_jump_80 : decode b_M_jump 80 = .ok (.iload 4, 2) := by decide +kernel
theorem d_M_jump_82 : decode b_M_jump 82 = .ok (.iaload, 1) := by decide +kernel
theorem d_M_jump_83 : decode b_M_jump 83 = .ok (.iconst 3, 1) := by decide +kernel
theorem d_M_jump_84 : decode b_M_jump 84 = .ok (.if_icmp .ne 7, 3) := by decide +kernel
theorem d_M_jump_87 : decode b_M_jump 87 = .ok (.iconst 0, 1) := by decide +kernel
theorem d_M_jump_88 : decode b_M_jump 88 = .ok (.goto 11, 3) := by decide +kernel
theorem d_M_jump_91 : decode b_M_jump 91 = .ok (.aload_n 0, 1) := by decide +kernel
theorem d_M_jump_92 : decode b_M_jump 92 = .ok (.getfield 54, 3) := by decide +kernel
theorem d_M_jump_95 : decode b_M_jump 95 = .ok (.iload 4, 2) := by decide +kernel
theorem d_M_jump_97 : decode b_M_jump 97 = .ok (.laload, 1) := by decide +kernel
theorem d_M_jump_98 : decode b_M_jump 98 = .ok (.l2i, 1) := by decide +kernel
theorem d_M_jump_99 : decode b_M_jump 99 = .ok (.istore 6, 2) := by decide +kernel
theorem d_M_jump_101 : decode b_M_jump 101 = .ok (.aload_n 0, 1) := by decide +kernel
theorem d_M_jump_102 : decode b_M_jump 102 = .ok (.getfield 111, 3) := by decide +kernel
theorem d_M_jump_105 : decode b_M_jump 105 = .ok (.aload_n 0, 1) := by decide +kernel
theorem d_M_jump_106 : decode b_M_jump 106 = .ok (.getfield 340, 3) := by decide +kernel
theorem d_M_jump_109 : decode b_M_jump 109 = .ok (.iaload, 1) := by decide +kernel
theorem d_M_jump_110 : decode b_M_jump 110 = .ok (.aload_n 0, 1) := by decide +kernel
theorem d_M_jump_111 : decode b_M_jump 111 = .ok (.iload 5, 2) := by decide +kernel
theorem d_M_jump_113 : decode b_M_jump 113 = .ok (.invokevirtual 322, 3) := by decide +kernel
theorem d_M_jump_116 : decode b_M_jump 116 = .ok (.iadd, 1) := by decide +kernel
theorem d_M_jump_117 : decode b_M_jump 117 = .ok (.aload_n 0, 1) := by decide +kernel
theorem d_M_jump_118 : decode b_M_jump 118 = .ok (.getfield 69, 3) := by decide +kernel
theorem d_M_jump_121 : decode b_M_jump 121 = .ok (.iload 4, 2) := by decide +kernel
theorem d_M_jump_123 : decode b_M_jump 123 = .ok (.iaload, 1) := by decide +kernel
theorem d_M_jump_124 : decode b_M_jump 124 = .ok (.iadd, 1) := by decide +kernel
theorem d_M_jump_125 : decode b_M_jump 125 = .ok (.aload_n 0, 1) := by decide +kernel
theorem d_M_jump_126 : decode b_M_jump 126 = .ok (.getfield 51, 3) := by decide +kernel
theorem d_M_jump_129 : decode b_M_jump 129 = .ok (.iload 4, 2) := by decide +kernel
theorem d_M_jump_131 : decode b_M_jump 131 = .ok (.iaload, 1) := by decide +kernel
theorem d_M_jump_132 : decode b_M_jump 132 = .ok (.iconst 4, 1) := by decide +kernel
theorem d_M_jump_133 : decode b_M_jump 133 = .ok (.if_icmp .ne 7, 3) := by decide +kernel
theorem d_M_jump_136 : decode b_M_jump 136 = .ok (.iconst 1, 1) := by decide +kernel
theorem d_M_jump_137 : decode b_M_jump 137 = .ok (.goto 4, 3) := by decide +kernel
theorem d_M_jump_140 : decode b_M_jump 140 = .ok (.iconst 0, 1) := by decide +kernel
theorem d_M_jump_141 : decode b_M_jump 141 = .ok (.isub, 1) := by decide +kernel
theorem d_M_jump_142 : decode b_M_jump 142 = .ok (.istore 7, 2) := by decide +kernel
theorem d_M_jump_144 : decode b_M_jump 144 = .ok (.iload 6, 2) := by decide +kernel
theorem d_M_jump_146 : decode b_M_jump 146 = .ok (.ifCond .le 17, 3) := by decide +kernel
theorem d_M_jump_149 : decode b_M_jump 149 = .ok (.aload_n 0, 1) := by decide +kernel
theorem d_M_jump_150 : decode b_M_jump 150 = .ok (.getfield 114, 3) := by decide +kernel
theorem d_M_jump_153 : decode b_M_jump 153 = .ok (.aload_n 0, 1) := by decide +kernel
theorem d_M_jump_154 : decode b_M_jump 154 = .ok (.getfield 343, 3) := by decide +kernel
theorem d_M_jump_157 : decode b_M_jump 157 = .ok (.iconst 1, 1) := by decide +kernel
theorem d_M_jump_158 : decode b_M_jump 158 = .ok (.isub, 1) := by decide +kernel
theorem d_M_jump_159 : decode b_M_jump 159 = .ok (.iaload, 1) := by decide +kernel
theorem d_M_jump_160 : decode b_M_jump 160 = .ok (.goto 4, 3) := by decide +kernel
theorem d_M_jump_163 : decode b_M_jump 163 = .ok (.iconst 0, 1) := by decide +kernel
theorem d_M_jump_164 : decode b_M_jump 164 = .ok (.istore 8, 2) := by decide +kernel
theorem d_M_jump_166 : decode b_M_jump 166 = .ok (.aload_n 0, 1) := by decide +kernel
theorem d_M_jump_167 : decode b_M_jump 167 = .ok (.iload 7, 2) := by decide +kernel
theorem d_M_jump_169 : decode b_M_jump 169 = .ok (.putfield 343, 3) := by decide +kernel
theorem d_M_jump_172 : decode b_M_jump 172 = .ok (.iload 6, 2) := by decide +kernel
theorem d_M_jump_174 : decode b_M_jump 174 = .ok (.ifCond .le 24, 3) := by decide +kernel
theorem d_M_jump_177 : decode b_M_jump 177 = .ok (.aload_n 0, 1) := by decide +kernel
theorem d_M_jump_178 : decode b_M_jump 178 = .ok (.getfield 114, 3) := by decide +kernel
theorem d_M_jump_181 : decode b_M_jump 181 = .ok (.aload_n 0, 1) := by decide +kernel
theorem d_M_jump_182 : decode b_M_jump 182 = .ok (.getfield 343, 3) := by decide +kernel
theorem d_M_jump_185 : decode b_M_jump 185 = .ok (.iload 8, 2) := by decide +kernel
theorem d_M_jump_187 : decode b_M_jump 187 = .ok (.iastore, 1) := by decide +kernel
theorem d_M_jump_188 : decode b_M_jump 188 = .ok (.aload_n 0, 1) := by decide +kernel
theorem d_M_jump_189 : decode b_M_jump 189 = .ok (.dup, 1) := by decide +kernel
theorem d_M_jump_190 : decode b_M_jump 190 = .ok (.getfield 343, 3) := by decide +kernel
theorem d_M_jump_193 : decode b_M_jump 193 = .ok (.iconst 1, 1) := by decide +kernel
theorem d_M_jump_194 : decode b_M_jump 194 = .ok (.iadd, 1) := by decide +kernel
theorem d_M_jump_195 : decode b_M_jump 195 = .ok (.putfield 343, 3) := by decide +kernel
theorem d_M_jump_198 : decode b_M_jump 198 = .ok (.aload_n 0, 1) := by decide +kernel
theorem d_M_jump_199 : decode b_M_jump 199 = .ok (.getfield 108, 3) := by decide +kernel
theorem d_M_jump_202 : decode b_M_jump 202 = .ok (.aload_n 0, 1) := by decide +kernel
theorem d_M_jump_203 : decode b_M_jump 203 = .ok (.getfield 340, 3) := by decide +kernel
theorem d_M_jump_206 : decode b_M_jump 206 = .ok (.aload_n 0, 1) := by decide +kernel
theorem d_M_jump_207 : decode b_M_jump 207 = .ok (.getfield 51, 3) := by decide +kernel
theorem d_M_jump_210 : decode b_M_jump 210 = .ok (.iload 4, 2) := by decide +kernel
theorem d_M_jump_212 : decode b_M_jump 212 = .ok (.iaload, 1) := by decide +kernel
theorem d_M_jump_213 : decode b_M_jump 213 = .ok (.iconst 3, 1) := by decide +kernel
theorem d_M_jump_214 : decode b_M_jump 214 = .ok (.if_icmp .ne 10, 3) := by decide +kernel
theorem d_M_jump_217 : decode b_M_jump 217 = .ok (.iload 4, 2) := by decide +kernel
theorem d_M_jump_219 : decode b_M_jump 219 = .ok (.iconst 1, 1) := by decide +kernel
theorem d_M_jump_220 : decode b_M_jump 220 = .ok (.iadd, 1) := by decide +kernel
theorem d_M_jump_221 : decode b_M_jump 221 = .ok (.goto 10, 3) := by decide +kernel
theorem d_M_jump_224 : decode b_M_jump 224 = .ok (.aload_n 0, 1) := by decide +kernel
theorem d_M_jump_225 : decode b_M_jump 225 = .ok (.getfield 63, 3) := by decide +kernel
theorem d_M_jump_228 : decode b_M_jump 228 = .ok (.iload 4, 2) := by decide +kernel
theorem d_M_jump_230 : decode b_M_jump 230 = .ok (.iaload, 1) := by decide +kernel
theorem d_M_jump_231 : decode b_M_jump 231 = .ok (.iastore, 1) := by decide +kernel
theorem d_M_jump_232 : decode b_M_jump 232 = .ok (.return_, 1) := by decide +kernel
theorem d_M_control_0 : decode b_M_control 0 = .ok (.aload_n 0, 1) := by decide +kernel
theorem d_M_control_1 : decode b_M_control 1 = .ok (.getfield 51, 3) := by decide +kernel
theorem d_M_control_4 : decode b_M_control 4 = .ok (.iload_n 1, 1) := by decide +kernel
theorem d_M_control_5 : decode b_M_control 5 = .ok (.iaload, 1) := by decide +kernel
theorem d_M_control_6 : decode b_M_control 6 = .ok (.istore_n 2, 1) := by decide +kernel
theorem d_M_control_7 : decode b_M_control 7 = .ok (.iload_n 2, 1) := by decide +kernel
theorem d_M_control_8 : decode b_M_control 8 = .ok (.ifCond .ne 5, 3) := by decide +kernel
theorem d_M_control_11 : decode b_M_control 11 = .ok (.iconst 2, 1) := by decide +kernel
theorem d_M_control_12 : decode b_M_control 12 = .ok (.ireturn, 1) := by decide +kernel
theorem d_M_control_13 : decode b_M_control 13 = .ok (.iload_n 2, 1) := by decide +kernel
theorem d_M_control_14 : decode b_M_control 14 = .ok (.bipush 16, 2) := by decide +kernel
theorem d_M_control_16 : decode b_M_control 16 = .ok (.if_icmp .ne 15, 3) := by decide +kernel
theorem d_M_control_19 : decode b_M_control 19 = .ok (.aload_n 0, 1) := by decide +kernel
theorem d_M_control_20 : decode b_M_control 20 = .ok (.getfield 340, 3) := by decide +kernel
theorem d_M_control_23 : decode b_M_control 23 = .ok (.bipush 8, 2) := by decide +kernel
theorem d_M_control_25 : decode b_M_control 25 = .ok (.if_icmp .ne 6, 3) := by decide +kernel
theorem d_M_control_28 : decode b_M_control 28 = .ok (.bipush 6, 2) := by decide +kernel
theorem d_M_control_30 : decode b_M_control 30 = .ok (.ireturn, 1) := by decide +kernel
theorem d_M_control_31 : decode b_M_control 31 = .ok (.aload_n 0, 1) := by decide +kernel
theorem d_M_control_32 : decode b_M_control 32 = .ok (.getfield 108, 3) := by decide +kernel
theorem d_M_control_35 : decode b_M_control 35 = .ok (.aload_n 0, 1) := by decide +kernel
theorem d_M_control_36 : decode b_M_control 36 = .ok (.getfield 340, 3) := by decide +kernel
theorem d_M_control_39 : decode b_M_control 39 = .ok (.iload_n 1, 1) := by decide +kernel
theorem d_M_control_40 : decode b_M_control 40 = .ok (.iconst 1, 1) := by decide +kernel
theorem d_M_control_41 : decode b_M_control 41 = .ok (.iadd, 1) := by decide +kernel
theorem d_M_control_42 : decode b_M_control 42 = .ok (.iastore, 1) := by decide +kernel
theorem d_M_control_43 : decode b_M_control 43 = .ok (.iload_n 2, 1) := by decide +kernel
theorem d_M_control_44 : decode b_M_control 44 = .ok (.iconst 4, 1) := by decide +kernel
theorem d_M_control_45 : decode b_M_control 45 = .ok (.if_icmp .ne 49, 3) := by decide +kernel
theorem d_M_control_48 : decode b_M_control 48 = .ok (.aload_n 0, 1) := by decide +kernel
theorem d_M_control_49 : decode b_M_control 49 = .ok (.invokevirtual 365, 3) := by decide +kernel
theorem d_M_control_52 : decode b_M_control 52 = .ok (.ifCond .ne 196, 3) := by decide +kernel
theorem d_M_control_55 : decode b_M_control 55 = .ok (.aload_n 0, 1) := by decide +kernel
theorem d_M_control_56 : decode b_M_control 56 = .ok (.getfield 108, 3) := by decide +kernel
theorem d_M_control_59 : decode b_M_control 59 = .ok (.aload_n 0, 1) := by decide +kernel
theorem d_M_control_60 : decode b_M_control 60 = .ok (.getfield 340, 3) := by decide +kernel
theorem d_M_control_63 : decode b_M_control 63 = .ok (.aload_n 0, 1) := by decide +kernel
theorem d_M_control_64 : decode b_M_control 64 = .ok (.getfield 66, 3) := by decide +kernel
theorem d_M_control_67 : decode b_M_control 67 = .ok (.iload_n 1, 1) := by decide +kernel
theorem d_M_control_68 : decode b_M_control 68 = .ok (.iaload, 1) := by decide +kernel
theorem d_M_control_69 : decode b_M_control 69 = .ok (.iconst (-1), 1) := by decide +kernel
theorem d_M_control_70 : decode b_M_control 70 = .ok (.if_icmp .ne 12, 3) := by decide +kernel
theorem d_M_control_73 : decode b_M_control 73 = .ok (.aload_n 0, 1) := by decide +kernel
theorem d_M_control_74 : decode b_M_control 74 = .ok (.getfield 63, 3) := by decide +kernel
theorem d_M_control_77 : decode b_M_control 77 = .ok (.iload_n 1, 1) := by decide +kernel
theorem d_M_control_78 : decode b_M_control 78 = .ok (.iaload, 1) := by decide +kernel
theorem d_M_control_79 : decode b_M_control 79 = .ok (.goto 11, 3) := by decide +kernel
theorem d_M_control_82 : decode b_M_control 82 = .ok (.aload_n 0, 1) := by decide +kernel
theorem d_M_control_83 : decode b_M_control 83 = .ok (.getfield 66, 3) := by decide +kernel
theorem d_M_control_86 : decode b_M_control 86 = .ok (.iload_n 1, 1) := by decide +kernel
theorem d_M_control_87 : decode b_M_control 87 = .ok (.iaload, 1) := by decide +kernel
theorem d_M_control_88 : decode b_M_control 88 = .ok (.iconst 1, 1) := by decide +kernel
theorem d_M_control_89 : decode b_M_control 89 = .ok (.iadd, 1) := by decide +kernel
theorem d_M_control_90 : decode b_M_control 90 = .ok (.iastore, 1) := by decide +kernel
theorem d_M_control_91 : decode b_M_control 91 = .ok (.goto 157, 3) := by decide +kernel
theorem d_M_control_94 : decode b_M_control 94 = .ok (.iload_n 2, 1) := by decide +kernel
theorem d_M_control_95 : decode b_M_control 95 = .ok (.bipush 12, 2) := by decide +kernel
theorem d_M_control_97 : decode b_M_control 97 = .ok (.if_icmp .ne 17, 3) := by decide +kernel
theorem d_M_control_100 : decode b_M_control 100 = .ok (.aload_n 0, 1) := by decide +kernel
theorem d_M_control_101 : decode b_M_control 101 = .ok (.iload_n 1, 1) := by decide +kernel
theorem d_M_control_102 : decode b_M_control 102 = .ok (.aload_n 0, 1) := by decide +kernel
theorem d_M_control_103 : decode b_M_control 103 = .ok (.getfield 54, 3) := by decide +kernel
theorem d_M_control_106 : decode b_M_control 106 = .ok (.iload_n 1, 1) := by decide +kernel
theorem d_M_control_107 : decode b_M_control 107 = .ok (.laload, 1) := by decide +kernel
theorem d_M_control_108 : decode b_M_control 108 = .ok (.invokevirtual 377, 3) := by decide +kernel
theorem d_M_control_111 : decode b_M_control 111 = .ok (.goto 137, 3) := by decide +kernel
theorem d_M_control_114 : decode b_M_control 114 = .ok (.iload_n 2, 1) := by decide +kernel
theorem d_M_control_115 : decode b_M_control 115 = .ok (.bipush 13, 2) := by decide +kernel
theorem d_M_control_117 : decode b_M_control 117 = .ok (.if_icmp .ne 24, 3) := by decide +kernel
theorem d_M_control_120 : decode b_M_control 120 = .ok (.aload_n 0, 1) := by decide +kernel
theorem d_M_control_121 : decode b_M_control 121 = .ok (.invokevirtual 365, 3) := by decide +kernel
theorem d_M_control_124 : decode b_M_control 124 = .ok (.ifCond .eq 124, 3) := by decide +kernel
theorem d_M_control_127 : decode b_M_control 127 = .ok (.aload_n 0, 1) := by decide +kernel
theorem d_M_control_128 : decode b_M_control 128 = .ok (.iload_n 1, 1) := by decide +kernel
theorem d_M_control_129 : decode b_M_control 129 = .ok (.aload_n 0, 1) := by decide +kernel
theorem d_M_control_130 : decode b_M_control 130 = .ok (.getfield 54, 3) := by decide +kernel
theorem d_M_control_133 : decode b_M_control 133 = .ok (.iload_n 1, 1) := by decide +kernel
theorem d_M_control_134 : decode b_M_control 134 = .ok (.laload, 1) := by decide +kernel
theorem d_M_control_135 : decode b_M_control 135 = .ok (.invokevirtual 377, 3) := by decide +kernel
theorem d_M_control_138 : decode b_M_control 138 = .ok (.goto 110, 3) := by decide +kernel
theorem d_M_control_141 : decode b_M_control 141 = .ok (.iload_n 2, 1) := by decide +kernel
theorem d_M_control_142 : decode b_M_control 142 = .ok (.bipush 14, 2) := by decide +kernel
theorem d_M_control_144 : decode b_M_control 144 = .ok (.if_icmp .ne 55, 3) := by decide +kernel
theorem d_M_control_147 : decode b_M_control 147 = .ok (.aload_n 0, 1) := by decide +kernel
theorem d_M_control_148 : decode b_M_control 148 = .ok (.invokevirtual 365, 3) := by decide +kernel
theorem d_M_control_151 : decode b_M_control 151 = .ok (.i2l, 1) := by decide +kernel
theorem d_M_control_152 : decode b_M_control 152 = .ok (.ldc2_w 282, 3) := by decide +kernel
theorem d_M_control_155 : decode b_M_control 155 = .ok (.land, 1) := by decide +kernel
theorem d_M_control_156 : decode b_M_control 156 = .ok (.lstore_n 3, 1) := by decide +kernel
theorem d_M_control_157 : decode b_M_control 157 = .ok (.aload_n 0, 1) := by decide +kernel
theorem d_M_control_158 : decode b_M_control 158 = .ok (.iload_n 1, 1) := by decide +kernel
theorem d_M_control_159 : decode b_M_control 159 = .ok (.aload_n 0, 1) := by decide +kernel
theorem d_M_control_160 : decode b_M_control 160 = .ok (.getfield 84, 3) := by decide +kernel
theorem d_M_control_163 : decode b_M_control 163 = .ok (.aload_n 0, 1) := by decide +kernel
theorem d_M_control_164 : decode b_M_control 164 = .ok (.getfield 57, 3) := by decide +kernel
theorem d_M_control_167 : decode b_M_control 167 = .ok (.iload_n 1, 1) := by decide +kernel
theorem d_M_control_168 : decode b_M_control 168 = .ok (.laload, 1) := by decide +kernel
theorem d_M_control_169 : decode b_M_control 169 = .ok (.lload_n 3, 1) := by decide +kernel
theorem d_M_control_170 : decode b_M_control 170 = .ok (.aload_n 0, 1) := by decide +kernel
theorem d_M_control_171 : decode b_M_control 171 = .ok (.getfield 54, 3) := by decide +kernel
theorem d_M_control_174 : decode b_M_control 174 = .ok (.iload_n 1, 1) := by decide +kernel
theorem d_M_control_175 : decode b_M_control 175 = .ok (.laload, 1) := by decide +kernel
theorem d_M_control_176 : decode b_M_control 176 = .ok (.lcmp, 1) := by decide +kernel
theorem d_M_control_177 : decode b_M_control 177 = .ok (.ifCond .ge 7, 3) := by decide +kernel
theorem d_M_control_180 : decode b_M_control 180 = .ok (.lload_n 3, 1) := by decide +kernel
theorem d_M_control_181 : decode b_M_control 181 = .ok (.goto 9, 3) := by decide +kernel
theorem d_M_control_184 : decode b_M_control 184 = .ok (.aload_n 0, 1) := by decide +kernel
theorem d_M_control_185 : decode b_M_control 185 = .ok (.getfield 54, 3) := by decide +kernel
theorem d_M_control_188 : decode b_M_control 188 = .ok (.iload_n 1, 1) := by decide +kernel
theorem d_M_control_189 : decode b_M_control 189 = .ok (.laload, 1) := by decide +kernel
theorem d_M_control_190 : decode b_M_control 190 = .ok (.ladd, 1) := by decide +kernel
theorem d_M_control_191 : decode b_M_control 191 = .ok (.l2i, 1) := by decide +kernel
theorem d_M_control_192 : decode b_M_control 192 = .ok (.laload, 1) := by decide +kernel
theorem d_M_control_193 : decode b_M_control 193 = .ok (.invokevirtual 377, 3) := by decide +kernel
theorem d_M_control_196 : decode b_M_control 196 = .ok (.goto 52, 3) := by decide +kernel
theorem d_M_control_199 : decode b_M_control 199 = .ok (.iload_n 2, 1) := by decide +kernel
theorem d_M_control_200 : decode b_M_control 200 = .ok (.bipush 15, 2) := by decide +kernel
theorem d_M_control_202 : decode b_M_control 202 = .ok (.if_icmp .ne 29, 3) := by decide +kernel
theorem d_M_control_205 : decode b_M_control 205 = .ok (.aload_n 0, 1) := by decide +kernel
theorem d_M_control_206 : decode b_M_control 206 = .ok (.getfield 108, 3) := by decide +kernel
theorem d_M_control_209 : decode b_M_control 209 = .ok (.aload_n 0, 1) := by decide +kernel
theorem d_M_control_210 : decode b_M_control 210 = .ok (.getfield 340, 3) := by decide +kernel
theorem d_M_control_213 : decode b_M_control 213 = .ok (.aload_n 0, 1) := by decide +kernel
theorem d_M_control_214 : decode b_M_control 214 = .ok (.getfield 78, 3) := by decide +kernel
theorem d_M_control_217 : decode b_M_control 217 = .ok (.aload_n 0, 1) := by decide +kernel
theorem d_M_control_218 : decode b_M_control 218 = .ok (.getfield 105, 3) := by decide +kernel
theorem d_M_control_221 : decode b_M_control 221 = .ok (.aload_n 0, 1) := by decide +kernel
theorem d_M_control_222 : decode b_M_control 222 = .ok (.getfield 340, 3) := by decide +kernel
theorem d_M_control_225 : decode b_M_control 225 = .ok (.iaload, 1) := by decide +kernel
theorem d_M_control_226 : decode b_M_control 226 = .ok (.iaload, 1) := by decide +kernel
theorem d_M_control_227 : decode b_M_control 227 = .ok (.iastore, 1) := by decide +kernel
theorem d_M_control_228 : decode b_M_control 228 = .ok (.goto 20, 3) := by decide +kernel
theorem d_M_control_231 : decode b_M_control 231 = .ok (.iload_n 2, 1) := by decide +kernel
theorem d_M_control_232 : decode b_M_control 232 = .ok (.bipush 16, 2) := by decide +kernel
theorem d_M_control_234 : decode b_M_control 234 = .ok (.if_icmp .ne 14, 3) := by decide +kernel
theorem d_M_control_237 : decode b_M_control 237 = .ok (.aload_n 0, 1) := by decide +kernel
theorem d_M_control_238 : decode b_M_control 238 = .ok (.aload_n 0, 1) := by decide +kernel
theorem d_M_control_239 : decode b_M_control 239 = .ok (.getfield 54, 3) := by decide +kernel
theorem d_M_control_242 : decode b_M_control 242 = .ok (.iload_n 1, 1) := by decide +kernel
theorem d_M_control_243 : decode b_M_control 243 = .ok (.laload, 1) := by decide +kernel
theorem d_M_control_244 : decode b_M_control 244 = .ok (.l2i, 1) := by decide +kernel
theorem d_M_control_245 : decode b_M_control 245 = .ok (.invokevirtual 346, 3) := by decide +kernel
theorem d_M_control_248 : decode b_M_control 248 = .ok (.iconst 0, 1) := by decide +kernel
theorem d_M_control_249 : decode b_M_control 249 = .ok (.ireturn, 1) := by decide +kernel
theorem d_M_give_0 : decode b_M_give 0 = .ok (.aload_n 0, 1) := by decide +kernel
theorem d_M_give_1 : decode b_M_give 1 = .ok (.getfield 114, 3) := by decide +kernel
theorem d_M_give_4 : decode b_M_give 4 = .ok (.aload_n 0, 1) := by decide +kernel
theorem d_M_give_5 : decode b_M_give 5 = .ok (.getfield 343, 3) := by decide +kernel
theorem d_M_give_8 : decode b_M_give 8 = .ok (.iload_n 1, 1) := by decide +kernel
theorem d_M_give_9 : decode b_M_give 9 = .ok (.iastore, 1) := by decide +kernel
theorem d_M_give_10 : decode b_M_give 10 = .ok (.aload_n 0, 1) := by decide +kernel
theorem d_M_give_11 : decode b_M_give 11 = .ok (.dup, 1) := by decide +kernel
theorem d_M_give_12 : decode b_M_give 12 = .ok (.getfield 343, 3) := by decide +kernel
theorem d_M_give_15 : decode b_M_give 15 = .ok (.iconst 1, 1) := by decide +kernel
theorem d_M_give_16 : decode b_M_give 16 = .ok (.iadd, 1) := by decide +kernel
theorem d_M_give_17 : decode b_M_give 17 = .ok (.putfield 343, 3) := by decide +kernel
theorem d_M_give_20 : decode b_M_give 20 = .ok (.return_, 1) := by decide +kernel
theorem d_M_read_0 : decode b_M_read 0 = .ok (.iconst 0, 1) := by decide +kernel
theorem d_M_read_1 : decode b_M_read 1 = .ok (.istore_n 3, 1) := by decide +kernel
theorem d_M_read_2 : decode b_M_read 2 = .ok (.iconst 0, 1) := by decide +kernel
theorem d_M_read_3 : decode b_M_read 3 = .ok (.istore 4, 2) := by decide +kernel
theorem d_M_read_5 : decode b_M_read 5 = .ok (.iload 4, 2) := by decide +kernel
theorem d_M_read_7 : decode b_M_read 7 = .ok (.iload_n 1, 1) := by decide +kernel
theorem d_M_read_8 : decode b_M_read 8 = .ok (.invokestatic 325, 3) := by decide +kernel
theorem d_M_read_11 : decode b_M_read 11 = .ok (.if_icmp .ge 27, 3) := by decide +kernel
theorem d_M_read_14 : decode b_M_read 14 = .ok (.iload_n 3, 1) := by decide +kernel
theorem d_M_read_15 : decode b_M_read 15 = .ok (.aload_n 0, 1) := by decide +kernel
theorem d_M_read_16 : decode b_M_read 16 = .ok (.getfield 96, 3) := by decide +kernel
theorem d_M_read_19 : decode b_M_read 19 = .ok (.iload_n 2, 1) := by decide +kernel
theorem d_M_read_20 : decode b_M_read 20 = .ok (.iload 4, 2) := by decide +kernel
theorem d_M_read_22 : decode b_M_read 22 = .ok (.iadd, 1) := by decide +kernel
theorem d_M_read_23 : decode b_M_read 23 = .ok (.iaload, 1) := by decide +kernel
theorem d_M_read_24 : decode b_M_read 24 = .ok (.bipush 8, 2) := by decide +kernel
theorem d_M_read_26 : decode b_M_read 26 = .ok (.iload 4, 2) := by decide +kernel
theorem d_M_read_28 : decode b_M_read 28 = .ok (.imul, 1) := by decide +kernel
theorem d_M_read_29 : decode b_M_read 29 = .ok (.ishl, 1) := by decide +kernel
theorem d_M_read_30 : decode b_M_read 30 = .ok (.ior, 1) := by decide +kernel
theorem d_M_read_31 : decode b_M_read 31 = .ok (.istore_n 3, 1) := by decide +kernel
theorem d_M_read_32 : decode b_M_read 32 = .ok (.iinc 4 1, 3) := by decide +kernel
theorem d_M_read_35 : decode b_M_read 35 = .ok (.goto (-30), 3) := by decide +kernel
theorem d_M_read_38 : decode b_M_read 38 = .ok (.iload_n 1, 1) := by decide +kernel
theorem d_M_read_39 : decode b_M_read 39 = .ok (.bipush 44, 2) := by decide +kernel
theorem d_M_read_41 : decode b_M_read 41 = .ok (.if_icmp .ne 13, 3) := by decide +kernel
theorem d_M_read_44 : decode b_M_read 44 = .ok (.iload_n 3, 1) := by decide +kernel
theorem d_M_read_45 : decode b_M_read 45 = .ok (.bipush 24, 2) := by decide +kernel
theorem d_M_read_47 : decode b_M_read 47 = .ok (.ishl, 1) := by decide +kernel
theorem d_M_read_48 : decode b_M_read 48 = .ok (.bipush 24, 2) := by decide +kernel
theorem d_M_read_50 : decode b_M_read 50 = .ok (.ishr, 1) := by decide +kernel
theorem d_M_read_51 : decode b_M_read 51 = .ok (.goto 20, 3) := by decide +kernel
theorem d_M_read_54 : decode b_M_read 54 = .ok (.iload_n 1, 1) := by decide +kernel
theorem d_M_read_55 : decode b_M_read 55 = .ok (.bipush 46, 2) := by decide +kernel
theorem d_M_read_57 : decode b_M_read 57 = .ok (.if_icmp .ne 13, 3) := by decide +kernel
theorem d_M_read_60 : decode b_M_read 60 = .ok (.iload_n 3, 1) := by decide +kernel
theorem d_M_read_61 : decode b_M_read 61 = .ok (.bipush 16, 2) := by decide +kernel
theorem d_M_read_63 : decode b_M_read 63 = .ok (.ishl, 1) := by decide +kernel
theorem d_M_read_64 : decode b_M_read 64 = .ok (.bipush 16, 2) := by decide +kernel
theorem d_M_read_66 : decode b_M_read 66 = .ok (.ishr, 1) := by decide +kernel
theorem d_M_read_67 : decode b_M_read 67 = .ok (.goto 4, 3) := by decide +kernel
theorem d_M_read_70 : decode b_M_read 70 = .ok (.iload_n 3, 1) := by decide +kernel
theorem d_M_read_71 : decode b_M_read 71 = .ok (.ireturn, 1) := by decide +kernel
theorem d_M_remember_0 : decode b_M_remember 0 = .ok (.aload_n 0, 1) := by decide +kernel
theorem d_M_remember_1 : decode b_M_remember 1 = .ok (.getfield 51, 3) := by decide +kernel
theorem d_M_remember_4 : decode b_M_remember 4 = .ok (.iload_n 1, 1) := by decide +kernel
theorem d_M_remember_5 : decode b_M_remember 5 = .ok (.iaload, 1) := by decide +kernel
theorem d_M_remember_6 : decode b_M_remember 6 = .ok (.istore_n 2, 1) := by decide +kernel
theorem d_M_remember_7 : decode b_M_remember 7 = .ok (.iload_n 2, 1) := by decide +kernel
theorem d_M_remember_8 : decode b_M_remember 8 = .ok (.bipush 63, 2) := by decide +kernel
theorem d_M_remember_10 : decode b_M_remember 10 = .ok (.if_icmp .ne 14, 3) := by decide +kernel
theorem d_M_remember_13 : decode b_M_remember 13 = .ok (.aload_n 0, 1) := by decide +kernel
theorem d_M_remember_14 : decode b_M_remember 14 = .ok (.aload_n 0, 1) := by decide +kernel
theorem d_M_remember_15 : decode b_M_remember 15 = .ok (.getfield 146, 3) := by decide +kernel
theorem d_M_remember_18 : decode b_M_remember 18 = .ok (.invokevirtual 368, 3) := by decide +kernel
theorem d_M_remember_21 : decode b_M_remember 21 = .ok (.goto 215, 3) := by decide +kernel
theorem d_M_remember_24 : decode b_M_remember 24 = .ok (.iload_n 2, 1) := by decide +kernel
theorem d_M_remember_25 : decode b_M_remember 25 = .ok (.bipush 64, 2) := by decide +kernel
theorem d_M_remember_27 : decode b_M_remember 27 = .ok (.if_icmp .ne 92, 3) := by decide +kernel
theorem d_M_remember_30 : decode b_M_remember 30 = .ok (.aload_n 0, 1) := by decide +kernel
theorem d_M_remember_31 : decode b_M_remember 31 = .ok (.invokevirtual 365, 3) := by decide +kernel
theorem d_M_remember_34 : decode b_M_remember 34 = .ok (.i2l, 1) := by decide +kernel
theorem d_M_remember_35 : decode b_M_remember 35 = .ok (.ldc2_w 282, 3) := by decide +kernel
theorem d_M_remember_38 : decode b_M_remember 38 = .ok (.land, 1) := by decide +kernel
theorem d_M_remember_39 : decode b_M_remember 39 = .ok (.aload_n 0, 1) := by decide +kernel
theorem d_M_remember_40 : decode b_M_remember 40 = .ok (.getfield 146, 3) := by decide +kernel
theorem d_M_remember_43 : decode b_M_remember 43 = .ok (.i2l, 1) := by decide +kernel
theorem d_M_remember_44 : decode b_M_remember 44 = .ok (.ladd, 1) := by decide +kernel
theorem d_M_remember_45 : decode b_M_remember 45 = .ok (.lstore_n 3, 1) := by decide +kernel
theorem d_M_remember_46 : decode b_M_remember 46 = .ok (.lload_n 3, 1) := by decide +kernel
theorem d_M_remember_47 : decode b_M_remember 47 = .ok (.ldc2_w 235, 3) := by decide +kernel
theorem d_M_remember_50 : decode b_M_remember 50 = .ok (.lcmp, 1) := by decide +kernel
theorem d_M_remember_51 : decode b_M_remember 51 = .ok (.ifCond .gt 23, 3) := by decide +kernel
theorem d_M_remember_54 : decode b_M_remember 54 = .ok (.aload_n 0, 1) := by decide +kernel
theorem d_M_remember_55 : decode b_M_remember 55 = .ok (.getfield 228, 3) := by decide +kernel
theorem d_M_remember_58 : decode b_M_remember 58 = .ok (.ifCond .eq 12, 3) := by decide +kernel
theorem d_M_remember_61 : decode b_M_remember 61 = .ok (.lload_n 3, 1) := by decide +kernel
theorem d_M_remember_62 : decode b_M_remember 62 = .ok (.aload_n 0, 1) := by decide +kernel
theorem d_M_remember_63 : decode b_M_remember 63 = .ok (.getfield 237, 3) := by decide +kernel
theorem d_M_remember_66 : decode b_M_remember 66 = .ok (.lcmp, 1) := by decide +kernel
theorem d_M_remember_67 : decode b_M_remember 67 = .ok (.ifCond .gt 7, 3) := by decide +kernel
theorem d_M_remember_70 : decode b_M_remember 70 = .ok (.iconst 1, 1) := by decide +kernel
theorem d_M_remember_71 : decode b_M_remember 71 = .ok (.goto 4, 3) := by decide +kernel
theorem d_M_remember_74 : decode b_M_remember 74 = .ok (.iconst 0, 1) := by decide +kernel
theorem d_M_remember_75 : decode b_M_remember 75 = .ok (.istore 5, 2) := by decide +kernel
theorem d_M_remember_77 : decode b_M_remember 77 = .ok (.aload_n 0, 1) := by decide +kernel
theorem d_M_remember_78 : decode b_M_remember 78 = .ok (.getfield 146, 3) := by decide +kernel
theorem d_M_remember_81 : decode b_M_remember 81 = .ok (.istore 6, 2) := by decide +kernel
theorem d_M_remember_83 : decode b_M_remember 83 = .ok (.aload_n 0, 1) := by decide +kernel
theorem d_M_remember_84 : decode b_M_remember 84 = .ok (.iload 5, 2) := by decide +kernel
theorem d_M_remember_86 : decode b_M_remember 86 = .ok (.ifCond .eq 8, 3) := by decide +kernel
theorem d_M_remember_89 : decode b_M_remember 89 = .ok (.lload_n 3, 1) := by decide +kernel
theorem d_M_remember_90 : decode b_M_remember 90 = .ok (.l2i, 1) := by decide +kernel
theorem d_M_remember_91 : decode b_M_remember 91 = .ok (.goto 7, 3) := by decide +kernel
theorem d_M_remember_94 : decode b_M_remember 94 = .ok (.aload_n 0, 1) := by decide +kernel
theorem d_M_remember_95 : decode b_M_remember 95 = .ok (.getfield 146, 3) := by decide +kernel
theorem d_M_remember_98 : decode b_M_remember 98 = .ok (.putfield 146, 3) := by decide +kernel
theorem d_M_remember_101 : decode b_M_remember 101 = .ok (.aload_n 0, 1) := by decide +kernel
theorem d_M_remember_102 : decode b_M_remember 102 = .ok (.iload 5, 2) := by decide +kernel
theorem d_M_remember_104 : decode b_M_remember 104 = .ok (.ifCond .eq 8, 3) := by decide +kernel
theorem d_M_remember_107 : decode b_M_remember 107 = .ok (.iload 6, 2) := by decide +kernel
theorem d_M_remember_109 : decode b_M_remember 109 = .ok (.goto 4, 3) := by decide +kernel
theorem d_M_remember_112 : decode b_M_remember 112 = .ok (.iconst (-1), 1) := by decide +kernel
theorem d_M_remember_113 : decode b_M_remember 113 = .ok (.invokevirtual 368, 3) := by decide +kernel
theorem d_M_remember_116 : decode b_M_remember 116 = .ok (.goto 120, 3) := by decide +kernel
theorem d_M_remember_119 : decode b_M_remember 119 = .ok (.iload_n 2, 1) := by decide +kernel
theorem d_M_remember_120 : decode b_M_remember 120 = .ok (.invokestatic 325, 3) := by decide +kernel
theorem d_M_remember_123 : decode b_M_remember 123 = .ok (.istore_n 3, 1) := by decide +kernel
theorem d_M_remember_124 : decode b_M_remember 124 = .ok (.iload_n 2, 1) := by decide +kernel
theorem d_M_remember_125 : decode b_M_remember 125 = .ok (.bipush 53, 2) := by decide +kernel
theorem d_M_remember_127 : decode b_M_remember 127 = .ok (.if_icmp .le 10, 3) := by decide +kernel
theorem d_M_remember_130 : decode b_M_remember 130 = .ok (.aload_n 0, 1) := by decide +kernel
theorem d_M_remember_131 : decode b_M_remember 131 = .ok (.invokevirtual 365, 3) := by decide +kernel
theorem d_M_remember_134 : decode b_M_remember 134 = .ok (.goto 4, 3) := by decide +kernel
theorem d_M_remember_137 : decode b_M_remember 137 = .ok (.iconst 0, 1) := by decide +kernel
theorem d_M_remember_138 : decode b_M_remember 138 = .ok (.istore 4, 2) := by decide +kernel
theorem d_M_remember_140 : decode b_M_remember 140 = .ok (.aload_n 0, 1) := by decide +kernel
theorem d_M_remember_141 : decode b_M_remember 141 = .ok (.invokevirtual 365, 3) := by decide +kernel
theorem d_M_remember_144 : decode b_M_remember 144 = .ok (.i2l, 1) := by decide +kernel
theorem d_M_remember_145 : decode b_M_remember 145 = .ok (.ldc2_w 282, 3) := by decide +kernel
theorem d_M_remember_148 : decode b_M_remember 148 = .ok (.land, 1) := by decide +kernel
theorem d_M_remember_149 : decode b_M_remember 149 = .ok (.aload_n 0, 1) := by decide +kernel
theorem d_M_remember_150 : decode b_M_remember 150 = .ok (.getfield 57, 3) := by decide +kernel
theorem d_M_remember_153 : decode b_M_remember 153 = .ok (.iload_n 1, 1) := by decide +kernel
theorem d_M_remember_154 : decode b_M_remember 154 = .ok (.laload, 1) := by decide +kernel
theorem d_M_remember_155 : decode b_M_remember 155 = .ok (.ladd, 1) := by decide +kernel
theorem d_M_remember_156 : decode b_M_remember 156 = .ok (.lstore 5, 2) := by decide +kernel
theorem d_M_remember_158 : decode b_M_remember 158 = .ok (.lload 5, 2) := by decide +kernel
theorem d_M_remember_160 : decode b_M_remember 160 = .ok (.iload_n 3, 1) := by decide +kernel
theorem d_M_remember_161 : decode b_M_remember 161 = .ok (.i2l, 1) := by decide +kernel
theorem d_M_remember_162 : decode b_M_remember 162 = .ok (.ladd, 1) := by decide +kernel
theorem d_M_remember_163 : decode b_M_remember 163 = .ok (.bipush 64, 2) := by decide +kernel
theorem d_M_remember_165 : decode b_M_remember 165 = .ok (.aload_n 0, 1) := by decide +kernel
theorem d_M_remember_166 : decode b_M_remember 166 = .ok (.getfield 146, 3) := by decide +kernel
theorem d_M_remember_169 : decode b_M_remember 169 = .ok (.imul, 1) := by decide +kernel
theorem d_M_remember_170 : decode b_M_remember 170 = .ok (.i2l, 1) := by decide +kernel
theorem d_M_remember_171 : decode b_M_remember 171 = .ok (.lcmp, 1) := by decide +kernel
theorem d_M_remember_172 : decode b_M_remember 172 = .ok (.ifCond .le 5, 3) := by decide +kernel
theorem d_M_remember_175 : decode b_M_remember 175 = .ok (.iconst 5, 1) := by decide +kernel
theorem d_M_remember_176 : decode b_M_remember 176 = .ok (.ireturn, 1) := by decide +kernel
theorem d_M_remember_177 : decode b_M_remember 177 = .ok (.iload_n 2, 1) := by decide +kernel
theorem d_M_remember_178 : decode b_M_remember 178 = .ok (.bipush 53, 2) := by decide +kernel
theorem d_M_remember_180 : decode b_M_remember 180 = .ok (.if_icmp .le 44, 3) := by decide +kernel
theorem d_M_remember_183 : decode b_M_remember 183 = .ok (.iconst 0, 1) := by decide +kernel
theorem d_M_remember_184 : decode b_M_remember 184 = .ok (.istore 7, 2) := by decide +kernel
theorem d_M_remember_186 : decode b_M_remember 186 = .ok (.iload 7, 2) := by decide +kernel
theorem d_M_remember_188 : decode b_M_remember 188 = .ok (.iload_n 3, 1) := by decide +kernel
theorem d_M_remember_189 : decode b_M_remember 189 = .ok (.if_icmp .ge 32, 3) := by decide +kernel
theorem d_M_remember_192 : decode b_M_remember 192 = .ok (.aload_n 0, 1) := by decide +kernel
theorem d_M_remember_193 : decode b_M_remember 193 = .ok (.getfield 96, 3) := by decide +kernel
theorem d_M_remember_196 : decode b_M_remember 196 = .ok (.lload 5, 2) := by decide +kernel
theorem d_M_remember_198 : decode b_M_remember 198 = .ok (.l2i, 1) := by decide +kernel
theorem d_M_remember_199 : decode b_M_remember 199 = .ok (.iload 7, 2) := by decide +kernel
theorem d_M_remember_201 : decode b_M_remember 201 = .ok (.iadd, 1) := by decide +kernel
theorem d_M_remember_202 : decode b_M_remember 202 = .ok (.iload 4, 2) := by decide +kernel
theorem d_M_remember_204 : decode b_M_remember 204 = .ok (.bipush 8, 2) := by decide +kernel
theorem d_M_remember_206 : decode b_M_remember 206 = .ok (.iload 7, 2) := by decide +kernel
theorem d_M_remember_208 : decode b_M_remember 208 = .ok (.imul, 1) := by decide +kernel
theorem d_M_remember_209 : decode b_M_remember 209 = .ok (.ishr, 1) := by decide +kernel
theorem d_M_remember_210 : decode b_M_remember 210 = .ok (.sipush 255, 3) := by decide +kernel
theorem d_M_remember_213 : decode b_M_remember 213 = .ok (.iand, 1) := by decide +kernel
theorem d_M_remember_214 : decode b_M_remember 214 = .ok (.iastore, 1) := by decide +kernel
theorem d_M_remember_215 : decode b_M_remember 215 = .ok (.iinc 7 1, 3) := by decide +kernel
theorem d_M_remember_218 : decode b_M_remember 218 = .ok (.goto (-32), 3) := by decide +kernel
theorem d_M_remember_221 : decode b_M_remember 221 = .ok (.goto 15, 3) := by decide +kernel
theorem d_M_remember_224 : decode b_M_remember 224 = .ok (.aload_n 0, 1) := by decide +kernel
theorem d_M_remember_225 : decode b_M_remember 225 = .ok (.aload_n 0, 1) := by decide +kernel
theorem d_M_remember_226 : decode b_M_remember 226 = .ok (.iload_n 2, 1) := by decide +kernel
theorem d_M_remember_227 : decode b_M_remember 227 = .ok (.lload 5, 2) := by decide +kernel
theorem d_M_remember_229 : decode b_M_remember 229 = .ok (.l2i, 1) := by decide +kernel
theorem d_M_remember_230 : decode b_M_remember 230 = .ok (.invokevirtual 381, 3) := by decide +kernel
theorem d_M_remember_233 : decode b_M_remember 233 = .ok (.invokevirtual 368, 3) := by decide +kernel
theorem d_M_remember_236 : decode b_M_remember 236 = .ok (.aload_n 0, 1) := by decide +kernel
theorem d_M_remember_237 : decode b_M_remember 237 = .ok (.getfield 108, 3) := by decide +kernel
theorem d_M_remember_240 : decode b_M_remember 240 = .ok (.aload_n 0, 1) := by decide +kernel
theorem d_M_remember_241 : decode b_M_remember 241 = .ok (.getfield 340, 3) := by decide +kernel
theorem d_M_remember_244 : decode b_M_remember 244 = .ok (.iload_n 1, 1) := by decide +kernel
theorem d_M_remember_245 : decode b_M_remember 245 = .ok (.iconst 1, 1) := by decide +kernel
theorem d_M_remember_246 : decode b_M_remember 246 = .ok (.iadd, 1) := by decide +kernel
theorem d_M_remember_247 : decode b_M_remember 247 = .ok (.iastore, 1) := by decide +kernel
theorem d_M_remember_248 : decode b_M_remember 248 = .ok (.iconst 0, 1) := by decide +kernel
theorem d_M_remember_249 : decode b_M_remember 249 = .ok (.ireturn, 1) := by decide +kernel
theorem d_M_single_0 : decode b_M_single 0 = .ok (.iload_n 0, 1) := by decide +kernel
theorem d_M_single_1 : decode b_M_single 1 = .ok (.bipush 69, 2) := by decide +kernel
theorem d_M_single_3 : decode b_M_single 3 = .ok (.if_icmp .ne 13, 3) := by decide +kernel
theorem d_M_single_6 : decode b_M_single 6 = .ok (.iload_n 1, 1) := by decide +kernel
theorem d_M_single_7 : decode b_M_single 7 = .ok (.ifCond .ne 7, 3) := by decide +kernel
theorem d_M_single_10 : decode b_M_single 10 = .ok (.iconst 1, 1) := by decide +kernel
theorem d_M_single_11 : decode b_M_single 11 = .ok (.goto 4, 3) := by decide +kernel
theorem d_M_single_14 : decode b_M_single 14 = .ok (.iconst 0, 1) := by decide +kernel
theorem d_M_single_15 : decode b_M_single 15 = .ok (.ireturn, 1) := by decide +kernel
theorem d_M_single_16 : decode b_M_single 16 = .ok (.iconst 0, 1) := by decide +kernel
theorem d_M_single_17 : decode b_M_single 17 = .ok (.istore_n 2, 1) := by decide +kernel
theorem d_M_single_18 : decode b_M_single 18 = .ok (.iload_n 0, 1) := by decide +kernel
theorem d_M_single_19 : decode b_M_single 19 = .ok (.bipush 105, 2) := by decide +kernel
theorem d_M_single_21 : decode b_M_single 21 = .ok (.if_icmp .ne 27, 3) := by decide +kernel
theorem d_M_single_24 : decode b_M_single 24 = .ok (.iconst 0, 1) := by decide +kernel
theorem d_M_single_25 : decode b_M_single 25 = .ok (.istore_n 3, 1) := by decide +kernel
theorem d_M_single_26 : decode b_M_single 26 = .ok (.iload_n 3, 1) := by decide +kernel
theorem d_M_single_27 : decode b_M_single 27 = .ok (.bipush 32, 2) := by decide +kernel
theorem d_M_single_29 : decode b_M_single 29 = .ok (.if_icmp .ge 17, 3) := by decide +kernel
theorem d_M_single_32 : decode b_M_single 32 = .ok (.iload_n 2, 1) := by decide +kernel
theorem d_M_single_33 : decode b_M_single 33 = .ok (.iload_n 1, 1) := by decide +kernel
theorem d_M_single_34 : decode b_M_single 34 = .ok (.iload_n 3, 1) := by decide +kernel
theorem d_M_single_35 : decode b_M_single 35 = .ok (.ishr, 1) := by decide +kernel
theorem d_M_single_36 : decode b_M_single 36 = .ok (.iconst 1, 1) := by decide +kernel
theorem d_M_single_37 : decode b_M_single 37 = .ok (.iand, 1) := by decide +kernel
theorem d_M_single_38 : decode b_M_single 38 = .ok (.iadd, 1) := by decide +kernel
theorem d_M_single_39 : decode b_M_single 39 = .ok (.istore_n 2, 1) := by decide +kernel
theorem d_M_single_40 : decode b_M_single 40 = .ok (.iinc 3 1, 3) := by decide +kernel
theorem d_M_single_43 : decode b_M_single 43 = .ok (.goto (-17), 3) := by decide +kernel
theorem d_M_single_46 : decode b_M_single 46 = .ok (.iload_n 2, 1) := by decide +kernel
theorem d_M_single_47 : decode b_M_single 47 = .ok (.ireturn, 1) := by decide +kernel
theorem d_M_single_48 : decode b_M_single 48 = .ok (.iload_n 2, 1) := by decide +kernel
theorem d_M_single_49 : decode b_M_single 49 = .ok (.bipush 32, 2) := by decide +kernel
theorem d_M_single_51 : decode b_M_single 51 = .ok (.if_icmp .ge 34, 3) := by decide +kernel
theorem d_M_single_54 : decode b_M_single 54 = .ok (.iload_n 0, 1) := by decide +kernel
theorem d_M_single_55 : decode b_M_single 55 = .ok (.bipush 103, 2) := by decide +kernel
theorem d_M_single_57 : decode b_M_single 57 = .ok (.if_icmp .ne 14, 3) := by decide +kernel
theorem d_M_single_60 : decode b_M_single 60 = .ok (.iload_n 1, 1) := by decide +kernel
theorem d_M_single_61 : decode b_M_single 61 = .ok (.bipush 31, 2) := by decide +kernel
theorem d_M_single_63 : decode b_M_single 63 = .ok (.iload_n 2, 1) := by decide +kernel
theorem d_M_single_64 : decode b_M_single 64 = .ok (.isub, 1) := by decide +kernel
theorem d_M_single_65 : decode b_M_single 65 = .ok (.ishr, 1) := by decide +kernel
theorem d_M_single_66 : decode b_M_single 66 = .ok (.iconst 1, 1) := by decide +kernel
theorem d_M_single_67 : decode b_M_single 67 = .ok (.iand, 1) := by decide +kernel
theorem d_M_single_68 : decode b_M_single 68 = .ok (.goto 8, 3) := by decide +kernel
theorem d_M_single_71 : decode b_M_single 71 = .ok (.iload_n 1, 1) := by decide +kernel
theorem d_M_single_72 : decode b_M_single 72 = .ok (.iload_n 2, 1) := by decide +kernel
theorem d_M_single_73 : decode b_M_single 73 = .ok (.ishr, 1) := by decide +kernel
theorem d_M_single_74 : decode b_M_single 74 = .ok (.iconst 1, 1) := by decide +kernel
theorem d_M_single_75 : decode b_M_single 75 = .ok (.iand, 1) := by decide +kernel
theorem d_M_single_76 : decode b_M_single 76 = .ok (.ifCond .ne 9, 3) := by decide +kernel
theorem d_M_single_79 : decode b_M_single 79 = .ok (.iinc 2 1, 3) := by decide +kernel
theorem d_M_single_82 : decode b_M_single 82 = .ok (.goto (-34), 3) := by decide +kernel
theorem d_M_single_85 : decode b_M_single 85 = .ok (.iload_n 2, 1) := by decide +kernel
theorem d_M_single_86 : decode b_M_single 86 = .ok (.ireturn, 1) := by decide +kernel
