theorem dX8_init_0 : decode cX8_init 0 = .ok (.aload_n 0, 1) := by decide +kernel
theorem dX8_init_1 : decode cX8_init 1 = .ok (.invokespecial 1, 3) := by decide +kernel
theorem dX8_init_4 : decode cX8_init 4 = .ok (.aload_n 0, 1) := by decide +kernel
theorem dX8_init_5 : decode cX8_init 5 = .ok (.sipush 226, 3) := by decide +kernel
theorem dX8_init_8 : decode cX8_init 8 = .ok (.newarray .int, 2) := by decide +kernel
theorem dX8_init_10 : decode cX8_init 10 = .ok (.putfield 7, 3) := by decide +kernel
theorem dX8_init_13 : decode cX8_init 13 = .ok (.aload_n 0, 1) := by decide +kernel
theorem dX8_init_14 : decode cX8_init 14 = .ok (.sipush 226, 3) := by decide +kernel
theorem dX8_init_17 : decode cX8_init 17 = .ok (.newarray .int, 2) := by decide +kernel
theorem dX8_init_19 : decode cX8_init 19 = .ok (.putfield 13, 3) := by decide +kernel
theorem dX8_init_22 : decode cX8_init 22 = .ok (.aload_n 0, 1) := by decide +kernel
theorem dX8_init_23 : decode cX8_init 23 = .ok (.sipush 1356, 3) := by decide +kernel
theorem dX8_init_26 : decode cX8_init 26 = .ok (.newarray .int, 2) := by decide +kernel
theorem dX8_init_28 : decode cX8_init 28 = .ok (.putfield 16, 3) := by decide +kernel
theorem dX8_init_31 : decode cX8_init 31 = .ok (.aload_n 0, 1) := by decide +kernel
theorem dX8_init_32 : decode cX8_init 32 = .ok (.sipush 452, 3) := by decide +kernel
theorem dX8_init_35 : decode cX8_init 35 = .ok (.newarray .int, 2) := by decide +kernel
theorem dX8_init_37 : decode cX8_init 37 = .ok (.putfield 19, 3) := by decide +kernel
theorem dX8_init_40 : decode cX8_init 40 = .ok (.aload_n 0, 1) := by decide +kernel
theorem dX8_init_41 : decode cX8_init 41 = .ok (.iconst 2, 1) := by decide +kernel
theorem dX8_init_42 : decode cX8_init 42 = .ok (.newarray .boolean, 2) := by decide +kernel
theorem dX8_init_44 : decode cX8_init 44 = .ok (.putfield 22, 3) := by decide +kernel
theorem dX8_init_47 : decode cX8_init 47 = .ok (.aload_n 0, 1) := by decide +kernel
theorem dX8_init_48 : decode cX8_init 48 = .ok (.bipush 60, 2) := by decide +kernel
theorem dX8_init_50 : decode cX8_init 50 = .ok (.newarray .int, 2) := by decide +kernel
theorem dX8_init_52 : decode cX8_init 52 = .ok (.putfield 26, 3) := by decide +kernel
theorem dX8_init_55 : decode cX8_init 55 = .ok (.iconst 0, 1) := by decide +kernel
theorem dX8_init_56 : decode cX8_init 56 = .ok (.istore_n 1, 1) := by decide +kernel
theorem dX8_init_57 : decode cX8_init 57 = .ok (.iload_n 1, 1) := by decide +kernel
theorem dX8_init_58 : decode cX8_init 58 = .ok (.bipush 6, 2) := by decide +kernel
theorem dX8_init_60 : decode cX8_init 60 = .ok (.if_icmp .ge 59, 3) := by decide +kernel
theorem dX8_init_63 : decode cX8_init 63 = .ok (.aload_n 0, 1) := by decide +kernel
theorem dX8_init_64 : decode cX8_init 64 = .ok (.getfield 7, 3) := by decide +kernel
theorem dX8_init_67 : decode cX8_init 67 = .ok (.bipush 17, 2) := by decide +kernel
theorem dX8_init_69 : decode cX8_init 69 = .ok (.iload_n 1, 1) := by decide +kernel
theorem dX8_init_70 : decode cX8_init 70 = .ok (.imul, 1) := by decide +kernel
theorem dX8_init_71 : decode cX8_init 71 = .ok (.iconst 0, 1) := by decide +kernel
theorem dX8_init_72 : decode cX8_init 72 = .ok (.iadd, 1) := by decide +kernel
theorem dX8_init_73 : decode cX8_init 73 = .ok (.iconst 3, 1) := by decide +kernel
theorem dX8_init_74 : decode cX8_init 74 = .ok (.iastore, 1) := by decide +kernel
theorem dX8_init_75 : decode cX8_init 75 = .ok (.aload_n 0, 1) := by decide +kernel
theorem dX8_init_76 : decode cX8_init 76 = .ok (.getfield 7, 3) := by decide +kernel
theorem dX8_init_79 : decode cX8_init 79 = .ok (.bipush 17, 2) := by decide +kernel
theorem dX8_init_81 : decode cX8_init 81 = .ok (.iload_n 1, 1) := by decide +kernel
theorem dX8_init_82 : decode cX8_init 82 = .ok (.imul, 1) := by decide +kernel
theorem dX8_init_83 : decode cX8_init 83 = .ok (.iconst 1, 1) := by decide +kernel
theorem dX8_init_84 : decode cX8_init 84 = .ok (.iadd, 1) := by decide +kernel
theorem dX8_init_85 : decode cX8_init 85 = .ok (.bipush 10, 2) := by decide +kernel
theorem dX8_init_87 : decode cX8_init 87 = .ok (.iastore, 1) := by decide +kernel
theorem dX8_init_88 : decode cX8_init 88 = .ok (.aload_n 0, 1) := by decide +kernel
theorem dX8_init_89 : decode cX8_init 89 = .ok (.getfield 7, 3) := by decide +kernel
theorem dX8_init_92 : decode cX8_init 92 = .ok (.bipush 17, 2) := by decide +kernel
theorem dX8_init_94 : decode cX8_init 94 = .ok (.iload_n 1, 1) := by decide +kernel
theorem dX8_init_95 : decode cX8_init 95 = .ok (.imul, 1) := by decide +kernel
theorem dX8_init_96 : decode cX8_init 96 = .ok (.iconst 2, 1) := by decide +kernel
theorem dX8_init_97 : decode cX8_init 97 = .ok (.iadd, 1) := by decide +kernel
theorem dX8_init_98 : decode cX8_init 98 = .ok (.bipush 100, 2) := by decide +kernel
theorem dX8_init_100 : decode cX8_init 100 = .ok (.iastore, 1) := by decide +kernel
theorem dX8_init_101 : decode cX8_init 101 = .ok (.aload_n 0, 1) := by decide +kernel
theorem dX8_init_102 : decode cX8_init 102 = .ok (.getfield 7, 3) := by decide +kernel
theorem dX8_init_105 : decode cX8_init 105 = .ok (.bipush 17, 2) := by decide +kernel
theorem dX8_init_107 : decode cX8_init 107 = .ok (.iload_n 1, 1) := by decide +kernel
theorem dX8_init_108 : decode cX8_init 108 = .ok (.imul, 1) := by decide +kernel
theorem dX8_init_109 : decode cX8_init 109 = .ok (.iconst 3, 1) := by decide +kernel
theorem dX8_init_110 : decode cX8_init 110 = .ok (.iadd, 1) := by decide +kernel
theorem dX8_init_111 : decode cX8_init 111 = .ok (.iload_n 1, 1) := by decide +kernel
theorem dX8_init_112 : decode cX8_init 112 = .ok (.iastore, 1) := by decide +kernel
theorem dX8_init_113 : decode cX8_init 113 = .ok (.iinc 1 1, 3) := by decide +kernel
theorem dX8_init_116 : decode cX8_init 116 = .ok (.goto (-59), 3) := by decide +kernel
theorem dX8_init_119 : decode cX8_init 119 = .ok (.aload_n 0, 1) := by decide +kernel
theorem dX8_init_120 : decode cX8_init 120 = .ok (.getfield 7, 3) := by decide +kernel
theorem dX8_init_123 : decode cX8_init 123 = .ok (.bipush 102, 2) := by decide +kernel
theorem dX8_init_125 : decode cX8_init 125 = .ok (.bipush 10, 2) := by decide +kernel
theorem dX8_init_127 : decode cX8_init 127 = .ok (.iastore, 1) := by decide +kernel
theorem dX8_init_128 : decode cX8_init 128 = .ok (.aload_n 0, 1) := by decide +kernel
theorem dX8_init_129 : decode cX8_init 129 = .ok (.getfield 7, 3) := by decide +kernel
theorem dX8_init_132 : decode cX8_init 132 = .ok (.bipush 103, 2) := by decide +kernel
theorem dX8_init_134 : decode cX8_init 134 = .ok (.iconst 1, 1) := by decide +kernel
theorem dX8_init_135 : decode cX8_init 135 = .ok (.iastore, 1) := by decide +kernel
theorem dX8_init_136 : decode cX8_init 136 = .ok (.return_, 1) := by decide +kernel
theorem dX8_in_0 : decode cX8_in 0 = .ok (.iload_n 0, 1) := by decide +kernel
theorem dX8_in_1 : decode cX8_in 1 = .ok (.iload_n 1, 1) := by decide +kernel
theorem dX8_in_2 : decode cX8_in 2 = .ok (.if_icmp .lt 12, 3) := by decide +kernel
theorem dX8_in_5 : decode cX8_in 5 = .ok (.iload_n 0, 1) := by decide +kernel
theorem dX8_in_6 : decode cX8_in 6 = .ok (.iload_n 2, 1) := by decide +kernel
theorem dX8_in_7 : decode cX8_in 7 = .ok (.if_icmp .gt 7, 3) := by decide +kernel
theorem dX8_in_10 : decode cX8_in 10 = .ok (.iconst 1, 1) := by decide +kernel
theorem dX8_in_11 : decode cX8_in 11 = .ok (.goto 4, 3) := by decide +kernel
theorem dX8_in_14 : decode cX8_in 14 = .ok (.iconst 0, 1) := by decide +kernel
theorem dX8_in_15 : decode cX8_in 15 = .ok (.ireturn, 1) := by decide +kernel
theorem dX8_isGauge_0 : decode cX8_isGauge 0 = .ok (.iload_n 0, 1) := by decide +kernel
theorem dX8_isGauge_1 : decode cX8_isGauge 1 = .ok (.iconst 0, 1) := by decide +kernel
theorem dX8_isGauge_2 : decode cX8_isGauge 2 = .ok (.iconst 5, 1) := by decide +kernel
theorem dX8_isGauge_3 : decode cX8_isGauge 3 = .ok (.invokestatic 29, 3) := by decide +kernel
theorem dX8_isGauge_6 : decode cX8_isGauge 6 = .ok (.ireturn, 1) := by decide +kernel
theorem dX8_of_0 : decode cX8_of 0 = .ok (.aload_n 0, 1) := by decide +kernel
theorem dX8_of_1 : decode cX8_of 1 = .ok (.getfield 7, 3) := by decide +kernel
theorem dX8_of_4 : decode cX8_of 4 = .ok (.bipush 17, 2) := by decide +kernel
theorem dX8_of_6 : decode cX8_of 6 = .ok (.iload_n 1, 1) := by decide +kernel
theorem dX8_of_7 : decode cX8_of 7 = .ok (.imul, 1) := by decide +kernel
theorem dX8_of_8 : decode cX8_of 8 = .ok (.iload_n 2, 1) := by decide +kernel
theorem dX8_of_9 : decode cX8_of 9 = .ok (.iadd, 1) := by decide +kernel
theorem dX8_of_10 : decode cX8_of 10 = .ok (.iaload, 1) := by decide +kernel
theorem dX8_of_11 : decode cX8_of 11 = .ok (.ireturn, 1) := by decide +kernel
theorem dX8_add_0 : decode cX8_add 0 = .ok (.aload_n 0, 1) := by decide +kernel
theorem dX8_add_1 : decode cX8_add 1 = .ok (.getfield 7, 3) := by decide +kernel
theorem dX8_add_4 : decode cX8_add 4 = .ok (.bipush 17, 2) := by decide +kernel
theorem dX8_add_6 : decode cX8_add 6 = .ok (.iload_n 1, 1) := by decide +kernel
theorem dX8_add_7 : decode cX8_add 7 = .ok (.imul, 1) := by decide +kernel
theorem dX8_add_8 : decode cX8_add 8 = .ok (.iload_n 2, 1) := by decide +kernel
theorem dX8_add_9 : decode cX8_add 9 = .ok (.iadd, 1) := by decide +kernel
theorem dX8_add_10 : decode cX8_add 10 = .ok (.dup2, 1) := by decide +kernel
theorem dX8_add_11 : decode cX8_add 11 = .ok (.iaload, 1) := by decide +kernel
theorem dX8_add_12 : decode cX8_add 12 = .ok (.iload_n 3, 1) := by decide +kernel
theorem dX8_add_13 : decode cX8_add 13 = .ok (.iadd, 1) := by decide +kernel
theorem dX8_add_14 : decode cX8_add 14 = .ok (.iastore, 1) := by decide +kernel
theorem dX8_add_15 : decode cX8_add 15 = .ok (.return_, 1) := by decide +kernel
theorem dX8_putAside_0 : decode cX8_putAside 0 = .ok (.iconst 0, 1) := by decide +kernel
theorem dX8_putAside_1 : decode cX8_putAside 1 = .ok (.istore_n 1, 1) := by decide +kernel
theorem dX8_putAside_2 : decode cX8_putAside 2 = .ok (.iload_n 1, 1) := by decide +kernel
theorem dX8_putAside_3 : decode cX8_putAside 3 = .ok (.sipush 226, 3) := by decide +kernel
theorem dX8_putAside_6 : decode cX8_putAside 6 = .ok (.if_icmp .ge 21, 3) := by decide +kernel
theorem dX8_putAside_9 : decode cX8_putAside 9 = .ok (.aload_n 0, 1) := by decide +kernel
theorem dX8_putAside_10 : decode cX8_putAside 10 = .ok (.getfield 13, 3) := by decide +kernel
theorem dX8_putAside_13 : decode cX8_putAside 13 = .ok (.iload_n 1, 1) := by decide +kernel
theorem dX8_putAside_14 : decode cX8_putAside 14 = .ok (.aload_n 0, 1) := by decide +kernel
theorem dX8_putAside_15 : decode cX8_putAside 15 = .ok (.getfield 7, 3) := by decide +kernel
theorem dX8_putAside_18 : decode cX8_putAside 18 = .ok (.iload_n 1, 1) := by decide +kernel
theorem dX8_putAside_19 : decode cX8_putAside 19 = .ok (.iaload, 1) := by decide +kernel
theorem dX8_putAside_20 : decode cX8_putAside 20 = .ok (.iastore, 1) := by decide +kernel
theorem dX8_putAside_21 : decode cX8_putAside 21 = .ok (.iinc 1 1, 3) := by decide +kernel
theorem dX8_putAside_24 : decode cX8_putAside 24 = .ok (.goto (-22), 3) := by decide +kernel
theorem dX8_putAside_27 : decode cX8_putAside 27 = .ok (.return_, 1) := by decide +kernel
theorem dX8_putBack_0 : decode cX8_putBack 0 = .ok (.iconst 0, 1) := by decide +kernel
theorem dX8_putBack_1 : decode cX8_putBack 1 = .ok (.istore_n 1, 1) := by decide +kernel
theorem dX8_putBack_2 : decode cX8_putBack 2 = .ok (.iload_n 1, 1) := by decide +kernel
theorem dX8_putBack_3 : decode cX8_putBack 3 = .ok (.sipush 226, 3) := by decide +kernel
theorem dX8_putBack_6 : decode cX8_putBack 6 = .ok (.if_icmp .ge 21, 3) := by decide +kernel
theorem dX8_putBack_9 : decode cX8_putBack 9 = .ok (.aload_n 0, 1) := by decide +kernel
theorem dX8_putBack_10 : decode cX8_putBack 10 = .ok (.getfield 7, 3) := by decide +kernel
theorem dX8_putBack_13 : decode cX8_putBack 13 = .ok (.iload_n 1, 1) := by decide +kernel
theorem dX8_putBack_14 : decode cX8_putBack 14 = .ok (.aload_n 0, 1) := by decide +kernel
theorem dX8_putBack_15 : decode cX8_putBack 15 = .ok (.getfield 13, 3) := by decide +kernel
theorem dX8_putBack_18 : decode cX8_putBack 18 = .ok (.iload_n 1, 1) := by decide +kernel
theorem dX8_putBack_19 : decode cX8_putBack 19 = .ok (.iaload, 1) := by decide +kernel
theorem dX8_putBack_20 : decode cX8_putBack 20 = .ok (.iastore, 1) := by decide +kernel
theorem dX8_putBack_21 : decode cX8_putBack 21 = .ok (.iinc 1 1, 3) := by decide +kernel
theorem dX8_putBack_24 : decode cX8_putBack 24 = .ok (.goto (-22), 3) := by decide +kernel
theorem dX8_putBack_27 : decode cX8_putBack 27 = .ok (.return_, 1) := by decide +kernel
theorem dX8_save0_0 : decode cX8_save0 0 = .ok (.aload_n 0, 1) := by decide +kernel
theorem dX8_save0_1 : decode cX8_save0 1 = .ok (.getfield 33, 3) := by decide +kernel
theorem dX8_save0_4 : decode cX8_save0 4 = .ok (.bipush 6, 2) := by decide +kernel
theorem dX8_save0_6 : decode cX8_save0 6 = .ok (.if_icmp .ne 44, 3) := by decide +kernel
theorem dX8_save0_9 : decode cX8_save0 9 = .ok (.iconst 0, 1) := by decide +kernel
theorem dX8_save0_10 : decode cX8_save0 10 = .ok (.istore_n 1, 1) := by decide +kernel
theorem dX8_save0_11 : decode cX8_save0 11 = .ok (.iload_n 1, 1) := by decide +kernel
theorem dX8_save0_12 : decode cX8_save0 12 = .ok (.sipush 1130, 3) := by decide +kernel
theorem dX8_save0_15 : decode cX8_save0 15 = .ok (.if_icmp .ge 25, 3) := by decide +kernel
theorem dX8_save0_18 : decode cX8_save0 18 = .ok (.aload_n 0, 1) := by decide +kernel
theorem dX8_save0_19 : decode cX8_save0 19 = .ok (.getfield 16, 3) := by decide +kernel
theorem dX8_save0_22 : decode cX8_save0 22 = .ok (.iload_n 1, 1) := by decide +kernel
theorem dX8_save0_23 : decode cX8_save0 23 = .ok (.aload_n 0, 1) := by decide +kernel
theorem dX8_save0_24 : decode cX8_save0 24 = .ok (.getfield 16, 3) := by decide +kernel
theorem dX8_save0_27 : decode cX8_save0 27 = .ok (.sipush 226, 3) := by decide +kernel
theorem dX8_save0_30 : decode cX8_save0 30 = .ok (.iload_n 1, 1) := by decide +kernel
theorem dX8_save0_31 : decode cX8_save0 31 = .ok (.iadd, 1) := by decide +kernel
theorem dX8_save0_32 : decode cX8_save0 32 = .ok (.iaload, 1) := by decide +kernel
theorem dX8_save0_33 : decode cX8_save0 33 = .ok (.iastore, 1) := by decide +kernel
theorem dX8_save0_34 : decode cX8_save0 34 = .ok (.iinc 1 1, 3) := by decide +kernel
theorem dX8_save0_37 : decode cX8_save0 37 = .ok (.goto (-26), 3) := by decide +kernel
theorem dX8_save0_40 : decode cX8_save0 40 = .ok (.aload_n 0, 1) := by decide +kernel
theorem dX8_save0_41 : decode cX8_save0 41 = .ok (.dup, 1) := by decide +kernel
theorem dX8_save0_42 : decode cX8_save0 42 = .ok (.getfield 33, 3) := by decide +kernel
theorem dX8_save0_45 : decode cX8_save0 45 = .ok (.iconst 1, 1) := by decide +kernel
theorem dX8_save0_46 : decode cX8_save0 46 = .ok (.isub, 1) := by decide +kernel
theorem dX8_save0_47 : decode cX8_save0 47 = .ok (.putfield 33, 3) := by decide +kernel
theorem dX8_save0_50 : decode cX8_save0 50 = .ok (.iconst 0, 1) := by decide +kernel
theorem dX8_save0_51 : decode cX8_save0 51 = .ok (.istore_n 1, 1) := by decide +kernel
theorem dX8_save0_52 : decode cX8_save0 52 = .ok (.iload_n 1, 1) := by decide +kernel
theorem dX8_save0_53 : decode cX8_save0 53 = .ok (.sipush 226, 3) := by decide +kernel
theorem dX8_save0_56 : decode cX8_save0 56 = .ok (.if_icmp .ge 30, 3) := by decide +kernel
theorem dX8_save0_59 : decode cX8_save0 59 = .ok (.aload_n 0, 1) := by decide +kernel
theorem dX8_save0_60 : decode cX8_save0 60 = .ok (.getfield 16, 3) := by decide +kernel
theorem dX8_save0_63 : decode cX8_save0 63 = .ok (.sipush 226, 3) := by decide +kernel
theorem dX8_save0_66 : decode cX8_save0 66 = .ok (.aload_n 0, 1) := by decide +kernel
theorem dX8_save0_67 : decode cX8_save0 67 = .ok (.getfield 33, 3) := by decide +kernel
theorem dX8_save0_70 : decode cX8_save0 70 = .ok (.imul, 1) := by decide +kernel
theorem dX8_save0_71 : decode cX8_save0 71 = .ok (.iload_n 1, 1) := by decide +kernel
theorem dX8_save0_72 : decode cX8_save0 72 = .ok (.iadd, 1) := by decide +kernel
theorem dX8_save0_73 : decode cX8_save0 73 = .ok (.aload_n 0, 1) := by decide +kernel
theorem dX8_save0_74 : decode cX8_save0 74 = .ok (.getfield 7, 3) := by decide +kernel
theorem dX8_save0_77 : decode cX8_save0 77 = .ok (.iload_n 1, 1) := by decide +kernel
theorem dX8_save0_78 : decode cX8_save0 78 = .ok (.iaload, 1) := by decide +kernel
theorem dX8_save0_79 : decode cX8_save0 79 = .ok (.iastore, 1) := by decide +kernel
theorem dX8_save0_80 : decode cX8_save0 80 = .ok (.iinc 1 1, 3) := by decide +kernel
theorem dX8_save0_83 : decode cX8_save0 83 = .ok (.goto (-31), 3) := by decide +kernel
theorem dX8_save0_86 : decode cX8_save0 86 = .ok (.aload_n 0, 1) := by decide +kernel
theorem dX8_save0_87 : decode cX8_save0 87 = .ok (.dup, 1) := by decide +kernel
theorem dX8_save0_88 : decode cX8_save0 88 = .ok (.getfield 33, 3) := by decide +kernel
theorem dX8_save0_91 : decode cX8_save0 91 = .ok (.iconst 1, 1) := by decide +kernel
theorem dX8_save0_92 : decode cX8_save0 92 = .ok (.iadd, 1) := by decide +kernel
theorem dX8_save0_93 : decode cX8_save0 93 = .ok (.putfield 33, 3) := by decide +kernel
theorem dX8_save0_96 : decode cX8_save0 96 = .ok (.return_, 1) := by decide +kernel
theorem dX8_wheel_0 : decode cX8_wheel 0 = .ok (.aload_n 0, 1) := by decide +kernel
theorem dX8_wheel_1 : decode cX8_wheel 1 = .ok (.iload_n 1, 1) := by decide +kernel
theorem dX8_wheel_2 : decode cX8_wheel 2 = .ok (.iconst 5, 1) := by decide +kernel
theorem dX8_wheel_3 : decode cX8_wheel 3 = .ok (.invokevirtual 37, 3) := by decide +kernel
theorem dX8_wheel_6 : decode cX8_wheel 6 = .ok (.aload_n 0, 1) := by decide +kernel
theorem dX8_wheel_7 : decode cX8_wheel 7 = .ok (.getfield 7, 3) := by decide +kernel
theorem dX8_wheel_10 : decode cX8_wheel 10 = .ok (.bipush 102, 2) := by decide +kernel
theorem dX8_wheel_12 : decode cX8_wheel 12 = .ok (.iaload, 1) := by decide +kernel
theorem dX8_wheel_13 : decode cX8_wheel 13 = .ok (.irem, 1) := by decide +kernel
theorem dX8_wheel_14 : decode cX8_wheel 14 = .ok (.ireturn, 1) := by decide +kernel
theorem dX8_size_0 : decode cX8_size 0 = .ok (.iload_n 0, 1) := by decide +kernel
theorem dX8_size_1 : decode cX8_size 1 = .ok (.ifCond .ge 8, 3) := by decide +kernel
theorem dX8_size_4 : decode cX8_size 4 = .ok (.iload_n 0, 1) := by decide +kernel
theorem dX8_size_5 : decode cX8_size 5 = .ok (.ineg, 1) := by decide +kernel
theorem dX8_size_6 : decode cX8_size 6 = .ok (.goto 4, 3) := by decide +kernel
theorem dX8_size_9 : decode cX8_size 9 = .ok (.iload_n 0, 1) := by decide +kernel
theorem dX8_size_10 : decode cX8_size 10 = .ok (.ireturn, 1) := by decide +kernel
theorem dX8_tell_0 : decode cX8_tell 0 = .ok (.iload_n 3, 1) := by decide +kernel
theorem dX8_tell_1 : decode cX8_tell 1 = .ok (.aload_n 0, 1) := by decide +kernel
theorem dX8_tell_2 : decode cX8_tell 2 = .ok (.iload_n 1, 1) := by decide +kernel
theorem dX8_tell_3 : decode cX8_tell 3 = .ok (.bipush 9, 2) := by decide +kernel
theorem dX8_tell_5 : decode cX8_tell 5 = .ok (.invokevirtual 37, 3) := by decide +kernel
theorem dX8_tell_8 : decode cX8_tell 8 = .ok (.if_icmp .ge 12, 3) := by decide +kernel
theorem dX8_tell_11 : decode cX8_tell 11 = .ok (.aload_n 0, 1) := by decide +kernel
theorem dX8_tell_12 : decode cX8_tell 12 = .ok (.iload_n 1, 1) := by decide +kernel
theorem dX8_tell_13 : decode cX8_tell 13 = .ok (.bipush 14, 2) := by decide +kernel
theorem dX8_tell_15 : decode cX8_tell 15 = .ok (.iconst 1, 1) := by decide +kernel
theorem dX8_tell_16 : decode cX8_tell 16 = .ok (.invokevirtual 41, 3) := by decide +kernel
theorem dX8_tell_19 : decode cX8_tell 19 = .ok (.return_, 1) := by decide +kernel
theorem dX8_tell_20 : decode cX8_tell 20 = .ok (.iload_n 3, 1) := by decide +kernel
theorem dX8_tell_21 : decode cX8_tell 21 = .ok (.aload_n 0, 1) := by decide +kernel
theorem dX8_tell_22 : decode cX8_tell 22 = .ok (.iload_n 1, 1) := by decide +kernel
theorem dX8_tell_23 : decode cX8_tell 23 = .ok (.bipush 9, 2) := by decide +kernel
theorem dX8_tell_25 : decode cX8_tell 25 = .ok (.invokevirtual 37, 3) := by decide +kernel
theorem dX8_tell_28 : decode cX8_tell 28 = .ok (.if_icmp .ne 33, 3) := by decide +kernel
theorem dX8_tell_31 : decode cX8_tell 31 = .ok (.iload_n 2, 1) := by decide +kernel
theorem dX8_tell_32 : decode cX8_tell 32 = .ok (.aload_n 0, 1) := by decide +kernel
theorem dX8_tell_33 : decode cX8_tell 33 = .ok (.iload_n 1, 1) := by decide +kernel
theorem dX8_tell_34 : decode cX8_tell 34 = .ok (.bipush 10, 2) := by decide +kernel
theorem dX8_tell_36 : decode cX8_tell 36 = .ok (.invokevirtual 37, 3) := by decide +kernel
theorem dX8_tell_39 : decode cX8_tell 39 = .ok (.if_icmp .ne 22, 3) := by decide +kernel
theorem dX8_tell_42 : decode cX8_tell 42 = .ok (.aload_n 0, 1) := by decide +kernel
theorem dX8_tell_43 : decode cX8_tell 43 = .ok (.iload_n 1, 1) := by decide +kernel
theorem dX8_tell_44 : decode cX8_tell 44 = .ok (.bipush 13, 2) := by decide +kernel
theorem dX8_tell_46 : decode cX8_tell 46 = .ok (.invokevirtual 37, 3) := by decide +kernel
theorem dX8_tell_49 : decode cX8_tell 49 = .ok (.ifCond .le 12, 3) := by decide +kernel
theorem dX8_tell_52 : decode cX8_tell 52 = .ok (.aload_n 0, 1) := by decide +kernel
theorem dX8_tell_53 : decode cX8_tell 53 = .ok (.iload_n 1, 1) := by decide +kernel
theorem dX8_tell_54 : decode cX8_tell 54 = .ok (.bipush 15, 2) := by decide +kernel
theorem dX8_tell_56 : decode cX8_tell 56 = .ok (.iconst 1, 1) := by decide +kernel
theorem dX8_tell_57 : decode cX8_tell 57 = .ok (.invokevirtual 41, 3) := by decide +kernel
theorem dX8_tell_60 : decode cX8_tell 60 = .ok (.return_, 1) := by decide +kernel
theorem dX8_tell_61 : decode cX8_tell 61 = .ok (.iload_n 2, 1) := by decide +kernel
theorem dX8_tell_62 : decode cX8_tell 62 = .ok (.aload_n 0, 1) := by decide +kernel
theorem dX8_tell_63 : decode cX8_tell 63 = .ok (.iload_n 1, 1) := by decide +kernel
theorem dX8_tell_64 : decode cX8_tell 64 = .ok (.bipush 10, 2) := by decide +kernel
theorem dX8_tell_66 : decode cX8_tell 66 = .ok (.invokevirtual 37, 3) := by decide +kernel
theorem dX8_tell_69 : decode cX8_tell 69 = .ok (.isub, 1) := by decide +kernel
theorem dX8_tell_70 : decode cX8_tell 70 = .ok (.istore 6, 2) := by decide +kernel
theorem dX8_tell_72 : decode cX8_tell 72 = .ok (.iload 6, 2) := by decide +kernel
theorem dX8_tell_74 : decode cX8_tell 74 = .ok (.iload 6, 2) := by decide +kernel
theorem dX8_tell_76 : decode cX8_tell 76 = .ok (.ifCond .ge 13, 3) := by decide +kernel
theorem dX8_tell_79 : decode cX8_tell 79 = .ok (.aload_n 0, 1) := by decide +kernel
theorem dX8_tell_80 : decode cX8_tell 80 = .ok (.getfield 7, 3) := by decide +kernel
theorem dX8_tell_83 : decode cX8_tell 83 = .ok (.bipush 102, 2) := by decide +kernel
theorem dX8_tell_85 : decode cX8_tell 85 = .ok (.iaload, 1) := by decide +kernel
theorem dX8_tell_86 : decode cX8_tell 86 = .ok (.goto 4, 3) := by decide +kernel
theorem dX8_tell_89 : decode cX8_tell 89 = .ok (.iconst 0, 1) := by decide +kernel
theorem dX8_tell_90 : decode cX8_tell 90 = .ok (.iadd, 1) := by decide +kernel
theorem dX8_tell_91 : decode cX8_tell 91 = .ok (.istore 6, 2) := by decide +kernel
theorem dX8_tell_93 : decode cX8_tell 93 = .ok (.aload_n 0, 1) := by decide +kernel
theorem dX8_tell_94 : decode cX8_tell 94 = .ok (.getfield 7, 3) := by decide +kernel
theorem dX8_tell_97 : decode cX8_tell 97 = .ok (.bipush 103, 2) := by decide +kernel
theorem dX8_tell_99 : decode cX8_tell 99 = .ok (.iaload, 1) := by decide +kernel
theorem dX8_tell_100 : decode cX8_tell 100 = .ok (.iconst 1, 1) := by decide +kernel
theorem dX8_tell_101 : decode cX8_tell 101 = .ok (.if_icmp .ne 78, 3) := by decide +kernel
theorem dX8_tell_104 : decode cX8_tell 104 = .ok (.iload 5, 2) := by decide +kernel
theorem dX8_tell_106 : decode cX8_tell 106 = .ok (.aload_n 0, 1) := by decide +kernel
theorem dX8_tell_107 : decode cX8_tell 107 = .ok (.iload_n 1, 1) := by decide +kernel
theorem dX8_tell_108 : decode cX8_tell 108 = .ok (.bipush 12, 2) := by decide +kernel
theorem dX8_tell_110 : decode cX8_tell 110 = .ok (.invokevirtual 37, 3) := by decide +kernel
theorem dX8_tell_113 : decode cX8_tell 113 = .ok (.isub, 1) := by decide +kernel
theorem dX8_tell_114 : decode cX8_tell 114 = .ok (.aload_n 0, 1) := by decide +kernel
theorem dX8_tell_115 : decode cX8_tell 115 = .ok (.iload_n 1, 1) := by decide +kernel
theorem dX8_tell_116 : decode cX8_tell 116 = .ok (.iconst 0, 1) := by decide +kernel
theorem dX8_tell_117 : decode cX8_tell 117 = .ok (.invokevirtual 37, 3) := by decide +kernel
theorem dX8_tell_120 : decode cX8_tell 120 = .ok (.imul, 1) := by decide +kernel
theorem dX8_tell_121 : decode cX8_tell 121 = .ok (.aload_n 0, 1) := by decide +kernel
theorem dX8_tell_122 : decode cX8_tell 122 = .ok (.iconst 0, 1) := by decide +kernel
theorem dX8_tell_123 : decode cX8_tell 123 = .ok (.iconst 0, 1) := by decide +kernel
theorem dX8_tell_124 : decode cX8_tell 124 = .ok (.invokevirtual 37, 3) := by decide +kernel
theorem dX8_tell_127 : decode cX8_tell 127 = .ok (.idiv, 1) := by decide +kernel
theorem dX8_tell_128 : decode cX8_tell 128 = .ok (.aload_n 0, 1) := by decide +kernel
theorem dX8_tell_129 : decode cX8_tell 129 = .ok (.iload_n 1, 1) := by decide +kernel
theorem dX8_tell_130 : decode cX8_tell 130 = .ok (.iconst 1, 1) := by decide +kernel
theorem dX8_tell_131 : decode cX8_tell 131 = .ok (.invokevirtual 37, 3) := by decide +kernel
theorem dX8_tell_134 : decode cX8_tell 134 = .ok (.idiv, 1) := by decide +kernel
theorem dX8_tell_135 : decode cX8_tell 135 = .ok (.istore 7, 2) := by decide +kernel
theorem dX8_tell_137 : decode cX8_tell 137 = .ok (.iload 6, 2) := by decide +kernel
theorem dX8_tell_139 : decode cX8_tell 139 = .ok (.aload_n 0, 1) := by decide +kernel
theorem dX8_tell_140 : decode cX8_tell 140 = .ok (.getfield 7, 3) := by decide +kernel
theorem dX8_tell_143 : decode cX8_tell 143 = .ok (.bipush 102, 2) := by decide +kernel
theorem dX8_tell_145 : decode cX8_tell 145 = .ok (.iaload, 1) := by decide +kernel
theorem dX8_tell_146 : decode cX8_tell 146 = .ok (.iadd, 1) := by decide +kernel
theorem dX8_tell_147 : decode cX8_tell 147 = .ok (.iload 7, 2) := by decide +kernel
theorem dX8_tell_149 : decode cX8_tell 149 = .ok (.isub, 1) := by decide +kernel
theorem dX8_tell_150 : decode cX8_tell 150 = .ok (.invokestatic 45, 3) := by decide +kernel
theorem dX8_tell_153 : decode cX8_tell 153 = .ok (.iload 6, 2) := by decide +kernel
theorem dX8_tell_155 : decode cX8_tell 155 = .ok (.iload 7, 2) := by decide +kernel
theorem dX8_tell_157 : decode cX8_tell 157 = .ok (.isub, 1) := by decide +kernel
theorem dX8_tell_158 : decode cX8_tell 158 = .ok (.invokestatic 45, 3) := by decide +kernel
theorem dX8_tell_161 : decode cX8_tell 161 = .ok (.if_icmp .ge 18, 3) := by decide +kernel
theorem dX8_tell_164 : decode cX8_tell 164 = .ok (.iload 6, 2) := by decide +kernel
theorem dX8_tell_166 : decode cX8_tell 166 = .ok (.aload_n 0, 1) := by decide +kernel
theorem dX8_tell_167 : decode cX8_tell 167 = .ok (.getfield 7, 3) := by decide +kernel
theorem dX8_tell_170 : decode cX8_tell 170 = .ok (.bipush 102, 2) := by decide +kernel
theorem dX8_tell_172 : decode cX8_tell 172 = .ok (.iaload, 1) := by decide +kernel
theorem dX8_tell_173 : decode cX8_tell 173 = .ok (.iadd, 1) := by decide +kernel
theorem dX8_tell_174 : decode cX8_tell 174 = .ok (.istore 6, 2) := by decide +kernel
theorem dX8_tell_176 : decode cX8_tell 176 = .ok (.goto (-39), 3) := by decide +kernel
theorem dX8_tell_179 : decode cX8_tell 179 = .ok (.aload_n 0, 1) := by decide +kernel
theorem dX8_tell_180 : decode cX8_tell 180 = .ok (.iload_n 1, 1) := by decide +kernel
theorem dX8_tell_181 : decode cX8_tell 181 = .ok (.bipush 8, 2) := by decide +kernel
theorem dX8_tell_183 : decode cX8_tell 183 = .ok (.iload 6, 2) := by decide +kernel
theorem dX8_tell_185 : decode cX8_tell 185 = .ok (.invokevirtual 41, 3) := by decide +kernel
theorem dX8_tell_188 : decode cX8_tell 188 = .ok (.aload_n 0, 1) := by decide +kernel
theorem dX8_tell_189 : decode cX8_tell 189 = .ok (.iload_n 1, 1) := by decide +kernel
theorem dX8_tell_190 : decode cX8_tell 190 = .ok (.bipush 13, 2) := by decide +kernel
theorem dX8_tell_192 : decode cX8_tell 192 = .ok (.iconst 1, 1) := by decide +kernel
theorem dX8_tell_193 : decode cX8_tell 193 = .ok (.invokevirtual 41, 3) := by decide +kernel
theorem dX8_tell_196 : decode cX8_tell 196 = .ok (.aload_n 0, 1) := by decide +kernel
theorem dX8_tell_197 : decode cX8_tell 197 = .ok (.getfield 7, 3) := by decide +kernel
theorem dX8_tell_200 : decode cX8_tell 200 = .ok (.bipush 17, 2) := by decide +kernel
theorem dX8_tell_202 : decode cX8_tell 202 = .ok (.iload_n 1, 1) := by decide +kernel
theorem dX8_tell_203 : decode cX8_tell 203 = .ok (.imul, 1) := by decide +kernel
theorem dX8_tell_204 : decode cX8_tell 204 = .ok (.bipush 9, 2) := by decide +kernel
theorem dX8_tell_206 : decode cX8_tell 206 = .ok (.iadd, 1) := by decide +kernel
theorem dX8_tell_207 : decode cX8_tell 207 = .ok (.iload_n 3, 1) := by decide +kernel
theorem dX8_tell_208 : decode cX8_tell 208 = .ok (.iastore, 1) := by decide +kernel
theorem dX8_tell_209 : decode cX8_tell 209 = .ok (.aload_n 0, 1) := by decide +kernel
theorem dX8_tell_210 : decode cX8_tell 210 = .ok (.getfield 7, 3) := by decide +kernel
theorem dX8_tell_213 : decode cX8_tell 213 = .ok (.bipush 17, 2) := by decide +kernel
theorem dX8_tell_215 : decode cX8_tell 215 = .ok (.iload_n 1, 1) := by decide +kernel
theorem dX8_tell_216 : decode cX8_tell 216 = .ok (.imul, 1) := by decide +kernel
theorem dX8_tell_217 : decode cX8_tell 217 = .ok (.bipush 10, 2) := by decide +kernel
theorem dX8_tell_219 : decode cX8_tell 219 = .ok (.iadd, 1) := by decide +kernel
theorem dX8_tell_220 : decode cX8_tell 220 = .ok (.iload_n 2, 1) := by decide +kernel
theorem dX8_tell_221 : decode cX8_tell 221 = .ok (.iastore, 1) := by decide +kernel
theorem dX8_tell_222 : decode cX8_tell 222 = .ok (.aload_n 0, 1) := by decide +kernel
theorem dX8_tell_223 : decode cX8_tell 223 = .ok (.getfield 7, 3) := by decide +kernel
theorem dX8_tell_226 : decode cX8_tell 226 = .ok (.bipush 17, 2) := by decide +kernel
theorem dX8_tell_228 : decode cX8_tell 228 = .ok (.iload_n 1, 1) := by decide +kernel
theorem dX8_tell_229 : decode cX8_tell 229 = .ok (.imul, 1) := by decide +kernel
theorem dX8_tell_230 : decode cX8_tell 230 = .ok (.bipush 11, 2) := by decide +kernel
theorem dX8_tell_232 : decode cX8_tell 232 = .ok (.iadd, 1) := by decide +kernel
theorem dX8_tell_233 : decode cX8_tell 233 = .ok (.iload 4, 2) := by decide +kernel
theorem dX8_tell_235 : decode cX8_tell 235 = .ok (.iastore, 1) := by decide +kernel
theorem dX8_tell_236 : decode cX8_tell 236 = .ok (.aload_n 0, 1) := by decide +kernel
theorem dX8_tell_237 : decode cX8_tell 237 = .ok (.getfield 7, 3) := by decide +kernel
theorem dX8_tell_240 : decode cX8_tell 240 = .ok (.bipush 17, 2) := by decide +kernel
theorem dX8_tell_242 : decode cX8_tell 242 = .ok (.iload_n 1, 1) := by decide +kernel
theorem dX8_tell_243 : decode cX8_tell 243 = .ok (.imul, 1) := by decide +kernel
theorem dX8_tell_244 : decode cX8_tell 244 = .ok (.bipush 12, 2) := by decide +kernel
theorem dX8_tell_246 : decode cX8_tell 246 = .ok (.iadd, 1) := by decide +kernel
theorem dX8_tell_247 : decode cX8_tell 247 = .ok (.iload 5, 2) := by decide +kernel
theorem dX8_tell_249 : decode cX8_tell 249 = .ok (.iastore, 1) := by decide +kernel
theorem dX8_tell_250 : decode cX8_tell 250 = .ok (.return_, 1) := by decide +kernel
theorem dX8_gap_0 : decode cX8_gap 0 = .ok (.aload_n 0, 1) := by decide +kernel
theorem dX8_gap_1 : decode cX8_gap 1 = .ok (.iload_n 1, 1) := by decide +kernel
theorem dX8_gap_2 : decode cX8_gap 2 = .ok (.iconst 5, 1) := by decide +kernel
theorem dX8_gap_3 : decode cX8_gap 3 = .ok (.invokevirtual 37, 3) := by decide +kernel
theorem dX8_gap_6 : decode cX8_gap 6 = .ok (.aload_n 0, 1) := by decide +kernel
theorem dX8_gap_7 : decode cX8_gap 7 = .ok (.iload_n 1, 1) := by decide +kernel
theorem dX8_gap_8 : decode cX8_gap 8 = .ok (.bipush 8, 2) := by decide +kernel
theorem dX8_gap_10 : decode cX8_gap 10 = .ok (.invokevirtual 37, 3) := by decide +kernel
theorem dX8_gap_13 : decode cX8_gap 13 = .ok (.isub, 1) := by decide +kernel
theorem dX8_gap_14 : decode cX8_gap 14 = .ok (.ireturn, 1) := by decide +kernel
theorem dX8_runnerOf_0 : decode cX8_runnerOf 0 = .ok (.aload_n 0, 1) := by decide +kernel
theorem dX8_runnerOf_1 : decode cX8_runnerOf 1 = .ok (.getfield 7, 3) := by decide +kernel
theorem dX8_runnerOf_4 : decode cX8_runnerOf 4 = .ok (.bipush 106, 2) := by decide +kernel
theorem dX8_runnerOf_6 : decode cX8_runnerOf 6 = .ok (.bipush 6, 2) := by decide +kernel
theorem dX8_runnerOf_8 : decode cX8_runnerOf 8 = .ok (.iload_n 1, 1) := by decide +kernel
theorem dX8_runnerOf_9 : decode cX8_runnerOf 9 = .ok (.imul, 1) := by decide +kernel
theorem dX8_runnerOf_10 : decode cX8_runnerOf 10 = .ok (.iadd, 1) := by decide +kernel
theorem dX8_runnerOf_11 : decode cX8_runnerOf 11 = .ok (.iload_n 2, 1) := by decide +kernel
theorem dX8_runnerOf_12 : decode cX8_runnerOf 12 = .ok (.iadd, 1) := by decide +kernel
theorem dX8_runnerOf_13 : decode cX8_runnerOf 13 = .ok (.iaload, 1) := by decide +kernel
theorem dX8_runnerOf_14 : decode cX8_runnerOf 14 = .ok (.ireturn, 1) := by decide +kernel
theorem dX8_drop_0 : decode cX8_drop 0 = .ok (.aload_n 0, 1) := by decide +kernel
theorem dX8_drop_1 : decode cX8_drop 1 = .ok (.getfield 7, 3) := by decide +kernel
theorem dX8_drop_4 : decode cX8_drop 4 = .ok (.bipush 105, 2) := by decide +kernel
theorem dX8_drop_6 : decode cX8_drop 6 = .ok (.dup2, 1) := by decide +kernel
theorem dX8_drop_7 : decode cX8_drop 7 = .ok (.iaload, 1) := by decide +kernel
theorem dX8_drop_8 : decode cX8_drop 8 = .ok (.iconst 1, 1) := by decide +kernel
theorem dX8_drop_9 : decode cX8_drop 9 = .ok (.isub, 1) := by decide +kernel
theorem dX8_drop_10 : decode cX8_drop 10 = .ok (.iastore, 1) := by decide +kernel
theorem dX8_drop_11 : decode cX8_drop 11 = .ok (.bipush 106, 2) := by decide +kernel
theorem dX8_drop_13 : decode cX8_drop 13 = .ok (.bipush 6, 2) := by decide +kernel
theorem dX8_drop_15 : decode cX8_drop 15 = .ok (.iload_n 1, 1) := by decide +kernel
theorem dX8_drop_16 : decode cX8_drop 16 = .ok (.imul, 1) := by decide +kernel
theorem dX8_drop_17 : decode cX8_drop 17 = .ok (.iadd, 1) := by decide +kernel
theorem dX8_drop_18 : decode cX8_drop 18 = .ok (.istore_n 2, 1) := by decide +kernel
theorem dX8_drop_19 : decode cX8_drop 19 = .ok (.iload_n 2, 1) := by decide +kernel
theorem dX8_drop_20 : decode cX8_drop 20 = .ok (.bipush 106, 2) := by decide +kernel
theorem dX8_drop_22 : decode cX8_drop 22 = .ok (.bipush 6, 2) := by decide +kernel
theorem dX8_drop_24 : decode cX8_drop 24 = .ok (.aload_n 0, 1) := by decide +kernel
theorem dX8_drop_25 : decode cX8_drop 25 = .ok (.getfield 7, 3) := by decide +kernel
theorem dX8_drop_28 : decode cX8_drop 28 = .ok (.bipush 105, 2) := by decide +kernel
theorem dX8_drop_30 : decode cX8_drop 30 = .ok (.iaload, 1) := by decide +kernel
theorem dX8_drop_31 : decode cX8_drop 31 = .ok (.imul, 1) := by decide +kernel
theorem dX8_drop_32 : decode cX8_drop 32 = .ok (.iadd, 1) := by decide +kernel
theorem dX8_drop_33 : decode cX8_drop 33 = .ok (.if_icmp .ge 24, 3) := by decide +kernel
theorem dX8_drop_36 : decode cX8_drop 36 = .ok (.aload_n 0, 1) := by decide +kernel
theorem dX8_drop_37 : decode cX8_drop 37 = .ok (.getfield 7, 3) := by decide +kernel
theorem dX8_drop_40 : decode cX8_drop 40 = .ok (.iload_n 2, 1) := by decide +kernel
theorem dX8_drop_41 : decode cX8_drop 41 = .ok (.aload_n 0, 1) := by decide +kernel
theorem dX8_drop_42 : decode cX8_drop 42 = .ok (.getfield 7, 3) := by decide +kernel
theorem dX8_drop_45 : decode cX8_drop 45 = .ok (.iload_n 2, 1) := by decide +kernel
theorem dX8_drop_46 : decode cX8_drop 46 = .ok (.bipush 6, 2) := by decide +kernel
theorem dX8_drop_48 : decode cX8_drop 48 = .ok (.iadd, 1) := by decide +kernel
theorem dX8_drop_49 : decode cX8_drop 49 = .ok (.iaload, 1) := by decide +kernel
theorem dX8_drop_50 : decode cX8_drop 50 = .ok (.iastore, 1) := by decide +kernel
theorem dX8_drop_51 : decode cX8_drop 51 = .ok (.iinc 2 1, 3) := by decide +kernel
theorem dX8_drop_54 : decode cX8_drop 54 = .ok (.goto (-35), 3) := by decide +kernel
theorem dX8_drop_57 : decode cX8_drop 57 = .ok (.iconst 0, 1) := by decide +kernel
theorem dX8_drop_58 : decode cX8_drop 58 = .ok (.istore_n 2, 1) := by decide +kernel
theorem dX8_drop_59 : decode cX8_drop 59 = .ok (.iload_n 2, 1) := by decide +kernel
theorem dX8_drop_60 : decode cX8_drop 60 = .ok (.bipush 6, 2) := by decide +kernel
theorem dX8_drop_62 : decode cX8_drop 62 = .ok (.if_icmp .ge 30, 3) := by decide +kernel
theorem dX8_drop_65 : decode cX8_drop 65 = .ok (.aload_n 0, 1) := by decide +kernel
theorem dX8_drop_66 : decode cX8_drop 66 = .ok (.getfield 7, 3) := by decide +kernel
theorem dX8_drop_69 : decode cX8_drop 69 = .ok (.bipush 106, 2) := by decide +kernel
theorem dX8_drop_71 : decode cX8_drop 71 = .ok (.bipush 6, 2) := by decide +kernel
theorem dX8_drop_73 : decode cX8_drop 73 = .ok (.aload_n 0, 1) := by decide +kernel
theorem dX8_drop_74 : decode cX8_drop 74 = .ok (.getfield 7, 3) := by decide +kernel
theorem dX8_drop_77 : decode cX8_drop 77 = .ok (.bipush 105, 2) := by decide +kernel
theorem dX8_drop_79 : decode cX8_drop 79 = .ok (.iaload, 1) := by decide +kernel
theorem dX8_drop_80 : decode cX8_drop 80 = .ok (.imul, 1) := by decide +kernel
theorem dX8_drop_81 : decode cX8_drop 81 = .ok (.iadd, 1) := by decide +kernel
theorem dX8_drop_82 : decode cX8_drop 82 = .ok (.iload_n 2, 1) := by decide +kernel
theorem dX8_drop_83 : decode cX8_drop 83 = .ok (.iadd, 1) := by decide +kernel
theorem dX8_drop_84 : decode cX8_drop 84 = .ok (.iconst 0, 1) := by decide +kernel
theorem dX8_drop_85 : decode cX8_drop 85 = .ok (.iastore, 1) := by decide +kernel
theorem dX8_drop_86 : decode cX8_drop 86 = .ok (.iinc 2 1, 3) := by decide +kernel
theorem dX8_drop_89 : decode cX8_drop 89 = .ok (.goto (-30), 3) := by decide +kernel
theorem dX8_drop_92 : decode cX8_drop 92 = .ok (.return_, 1) := by decide +kernel
theorem dX8_come_0 : decode cX8_come 0 = .ok (.iconst 0, 1) := by decide +kernel
theorem dX8_come_1 : decode cX8_come 1 = .ok (.istore_n 1, 1) := by decide +kernel
theorem dX8_come_2 : decode cX8_come 2 = .ok (.iload_n 1, 1) := by decide +kernel
theorem dX8_come_3 : decode cX8_come 3 = .ok (.aload_n 0, 1) := by decide +kernel
theorem dX8_come_4 : decode cX8_come 4 = .ok (.getfield 7, 3) := by decide +kernel
theorem dX8_come_7 : decode cX8_come 7 = .ok (.bipush 105, 2) := by decide +kernel
theorem dX8_come_9 : decode cX8_come 9 = .ok (.iaload, 1) := by decide +kernel
theorem dX8_come_10 : decode cX8_come 10 = .ok (.if_icmp .ge 67, 3) := by decide +kernel
theorem dX8_come_13 : decode cX8_come 13 = .ok (.aload_n 0, 1) := by decide +kernel
theorem dX8_come_14 : decode cX8_come 14 = .ok (.iload_n 1, 1) := by decide +kernel
theorem dX8_come_15 : decode cX8_come 15 = .ok (.iconst 3, 1) := by decide +kernel
theorem dX8_come_16 : decode cX8_come 16 = .ok (.invokevirtual 49, 3) := by decide +kernel
theorem dX8_come_19 : decode cX8_come 19 = .ok (.aload_n 0, 1) := by decide +kernel
theorem dX8_come_20 : decode cX8_come 20 = .ok (.getfield 7, 3) := by decide +kernel
theorem dX8_come_23 : decode cX8_come 23 = .ok (.bipush 104, 2) := by decide +kernel
theorem dX8_come_25 : decode cX8_come 25 = .ok (.iaload, 1) := by decide +kernel
theorem dX8_come_26 : decode cX8_come 26 = .ok (.if_icmp .gt 45, 3) := by decide +kernel
theorem dX8_come_29 : decode cX8_come 29 = .ok (.aload_n 0, 1) := by decide +kernel
theorem dX8_come_30 : decode cX8_come 30 = .ok (.aload_n 0, 1) := by decide +kernel
theorem dX8_come_31 : decode cX8_come 31 = .ok (.iload_n 1, 1) := by decide +kernel
theorem dX8_come_32 : decode cX8_come 32 = .ok (.iconst 0, 1) := by decide +kernel
theorem dX8_come_33 : decode cX8_come 33 = .ok (.invokevirtual 49, 3) := by decide +kernel
theorem dX8_come_36 : decode cX8_come 36 = .ok (.aload_n 0, 1) := by decide +kernel
theorem dX8_come_37 : decode cX8_come 37 = .ok (.iload_n 1, 1) := by decide +kernel
theorem dX8_come_38 : decode cX8_come 38 = .ok (.iconst 1, 1) := by decide +kernel
theorem dX8_come_39 : decode cX8_come 39 = .ok (.invokevirtual 49, 3) := by decide +kernel
theorem dX8_come_42 : decode cX8_come 42 = .ok (.aload_n 0, 1) := by decide +kernel
theorem dX8_come_43 : decode cX8_come 43 = .ok (.iload_n 1, 1) := by decide +kernel
theorem dX8_come_44 : decode cX8_come 44 = .ok (.iconst 2, 1) := by decide +kernel
theorem dX8_come_45 : decode cX8_come 45 = .ok (.invokevirtual 49, 3) := by decide +kernel
theorem dX8_come_48 : decode cX8_come 48 = .ok (.aload_n 0, 1) := by decide +kernel
theorem dX8_come_49 : decode cX8_come 49 = .ok (.iload_n 1, 1) := by decide +kernel
theorem dX8_come_50 : decode cX8_come 50 = .ok (.iconst 4, 1) := by decide +kernel
theorem dX8_come_51 : decode cX8_come 51 = .ok (.invokevirtual 49, 3) := by decide +kernel
theorem dX8_come_54 : decode cX8_come 54 = .ok (.aload_n 0, 1) := by decide +kernel
theorem dX8_come_55 : decode cX8_come 55 = .ok (.iload_n 1, 1) := by decide +kernel
theorem dX8_come_56 : decode cX8_come 56 = .ok (.iconst 5, 1) := by decide +kernel
theorem dX8_come_57 : decode cX8_come 57 = .ok (.invokevirtual 49, 3) := by decide +kernel
theorem dX8_come_60 : decode cX8_come 60 = .ok (.invokevirtual 52, 3) := by decide +kernel
theorem dX8_come_63 : decode cX8_come 63 = .ok (.aload_n 0, 1) := by decide +kernel
theorem dX8_come_64 : decode cX8_come 64 = .ok (.iload_n 1, 1) := by decide +kernel
theorem dX8_come_65 : decode cX8_come 65 = .ok (.invokevirtual 56, 3) := by decide +kernel
theorem dX8_come_68 : decode cX8_come 68 = .ok (.goto (-66), 3) := by decide +kernel
theorem dX8_come_71 : decode cX8_come 71 = .ok (.iinc 1 1, 3) := by decide +kernel
theorem dX8_come_74 : decode cX8_come 74 = .ok (.goto (-72), 3) := by decide +kernel
theorem dX8_come_77 : decode cX8_come 77 = .ok (.return_, 1) := by decide +kernel
theorem dX8_sends_0 : decode cX8_sends 0 = .ok (.aload_n 0, 1) := by decide +kernel
theorem dX8_sends_1 : decode cX8_sends 1 = .ok (.getfield 7, 3) := by decide +kernel
theorem dX8_sends_4 : decode cX8_sends 4 = .ok (.bipush 105, 2) := by decide +kernel
theorem dX8_sends_6 : decode cX8_sends 6 = .ok (.iaload, 1) := by decide +kernel
theorem dX8_sends_7 : decode cX8_sends 7 = .ok (.bipush 20, 2) := by decide +kernel
theorem dX8_sends_9 : decode cX8_sends 9 = .ok (.if_icmp .ne 6, 3) := by decide +kernel
theorem dX8_sends_12 : decode cX8_sends 12 = .ok (.ldc 60, 2) := by decide +kernel
theorem dX8_sends_14 : decode cX8_sends 14 = .ok (.ireturn, 1) := by decide +kernel
theorem dX8_sends_15 : decode cX8_sends 15 = .ok (.bipush 106, 2) := by decide +kernel
theorem dX8_sends_17 : decode cX8_sends 17 = .ok (.bipush 6, 2) := by decide +kernel
theorem dX8_sends_19 : decode cX8_sends 19 = .ok (.aload_n 0, 1) := by decide +kernel
theorem dX8_sends_20 : decode cX8_sends 20 = .ok (.getfield 7, 3) := by decide +kernel
theorem dX8_sends_23 : decode cX8_sends 23 = .ok (.bipush 105, 2) := by decide +kernel
theorem dX8_sends_25 : decode cX8_sends 25 = .ok (.iaload, 1) := by decide +kernel
theorem dX8_sends_26 : decode cX8_sends 26 = .ok (.imul, 1) := by decide +kernel
theorem dX8_sends_27 : decode cX8_sends 27 = .ok (.iadd, 1) := by decide +kernel
theorem dX8_sends_28 : decode cX8_sends 28 = .ok (.istore_n 2, 1) := by decide +kernel
theorem dX8_sends_29 : decode cX8_sends 29 = .ok (.aload_n 0, 1) := by decide +kernel
theorem dX8_sends_30 : decode cX8_sends 30 = .ok (.iload_n 1, 1) := by decide +kernel
theorem dX8_sends_31 : decode cX8_sends 31 = .ok (.invokevirtual 61, 3) := by decide +kernel
theorem dX8_sends_34 : decode cX8_sends 34 = .ok (.istore_n 3, 1) := by decide +kernel
theorem dX8_sends_35 : decode cX8_sends 35 = .ok (.aload_n 0, 1) := by decide +kernel
theorem dX8_sends_36 : decode cX8_sends 36 = .ok (.getfield 7, 3) := by decide +kernel
theorem dX8_sends_39 : decode cX8_sends 39 = .ok (.iload_n 2, 1) := by decide +kernel
theorem dX8_sends_40 : decode cX8_sends 40 = .ok (.iload_n 1, 1) := by decide +kernel
theorem dX8_sends_41 : decode cX8_sends 41 = .ok (.iastore, 1) := by decide +kernel
theorem dX8_sends_42 : decode cX8_sends 42 = .ok (.aload_n 0, 1) := by decide +kernel
theorem dX8_sends_43 : decode cX8_sends 43 = .ok (.getfield 7, 3) := by decide +kernel
theorem dX8_sends_46 : decode cX8_sends 46 = .ok (.iload_n 2, 1) := by decide +kernel
theorem dX8_sends_47 : decode cX8_sends 47 = .ok (.iconst 1, 1) := by decide +kernel
theorem dX8_sends_48 : decode cX8_sends 48 = .ok (.iadd, 1) := by decide +kernel
theorem dX8_sends_49 : decode cX8_sends 49 = .ok (.iload_n 3, 1) := by decide +kernel
theorem dX8_sends_50 : decode cX8_sends 50 = .ok (.iastore, 1) := by decide +kernel
theorem dX8_sends_51 : decode cX8_sends 51 = .ok (.aload_n 0, 1) := by decide +kernel
theorem dX8_sends_52 : decode cX8_sends 52 = .ok (.getfield 7, 3) := by decide +kernel
theorem dX8_sends_55 : decode cX8_sends 55 = .ok (.iload_n 2, 1) := by decide +kernel
theorem dX8_sends_56 : decode cX8_sends 56 = .ok (.iconst 2, 1) := by decide +kernel
theorem dX8_sends_57 : decode cX8_sends 57 = .ok (.iadd, 1) := by decide +kernel
theorem dX8_sends_58 : decode cX8_sends 58 = .ok (.aload_n 0, 1) := by decide +kernel
theorem dX8_sends_59 : decode cX8_sends 59 = .ok (.getfield 7, 3) := by decide +kernel
theorem dX8_sends_62 : decode cX8_sends 62 = .ok (.bipush 104, 2) := by decide +kernel
theorem dX8_sends_64 : decode cX8_sends 64 = .ok (.iaload, 1) := by decide +kernel
theorem dX8_sends_65 : decode cX8_sends 65 = .ok (.iastore, 1) := by decide +kernel
theorem dX8_sends_66 : decode cX8_sends 66 = .ok (.aload_n 0, 1) := by decide +kernel
theorem dX8_sends_67 : decode cX8_sends 67 = .ok (.getfield 7, 3) := by decide +kernel
theorem dX8_sends_70 : decode cX8_sends 70 = .ok (.iload_n 2, 1) := by decide +kernel
theorem dX8_sends_71 : decode cX8_sends 71 = .ok (.iconst 3, 1) := by decide +kernel
theorem dX8_sends_72 : decode cX8_sends 72 = .ok (.iadd, 1) := by decide +kernel
theorem dX8_sends_73 : decode cX8_sends 73 = .ok (.aload_n 0, 1) := by decide +kernel
theorem dX8_sends_74 : decode cX8_sends 74 = .ok (.getfield 7, 3) := by decide +kernel
theorem dX8_sends_77 : decode cX8_sends 77 = .ok (.bipush 104, 2) := by decide +kernel
theorem dX8_sends_79 : decode cX8_sends 79 = .ok (.iaload, 1) := by decide +kernel
theorem dX8_sends_80 : decode cX8_sends 80 = .ok (.aload_n 0, 1) := by decide +kernel
theorem dX8_sends_81 : decode cX8_sends 81 = .ok (.iload_n 1, 1) := by decide +kernel
theorem dX8_sends_82 : decode cX8_sends 82 = .ok (.iconst 3, 1) := by decide +kernel
theorem dX8_sends_83 : decode cX8_sends 83 = .ok (.invokevirtual 37, 3) := by decide +kernel
theorem dX8_sends_86 : decode cX8_sends 86 = .ok (.iadd, 1) := by decide +kernel
theorem dX8_sends_87 : decode cX8_sends 87 = .ok (.iastore, 1) := by decide +kernel
theorem dX8_sends_88 : decode cX8_sends 88 = .ok (.aload_n 0, 1) := by decide +kernel
theorem dX8_sends_89 : decode cX8_sends 89 = .ok (.getfield 7, 3) := by decide +kernel
theorem dX8_sends_92 : decode cX8_sends 92 = .ok (.iload_n 2, 1) := by decide +kernel
theorem dX8_sends_93 : decode cX8_sends 93 = .ok (.iconst 4, 1) := by decide +kernel
theorem dX8_sends_94 : decode cX8_sends 94 = .ok (.iadd, 1) := by decide +kernel
theorem dX8_sends_95 : decode cX8_sends 95 = .ok (.aload_n 0, 1) := by decide +kernel
theorem dX8_sends_96 : decode cX8_sends 96 = .ok (.iload_n 1, 1) := by decide +kernel
theorem dX8_sends_97 : decode cX8_sends 97 = .ok (.iconst 5, 1) := by decide +kernel
theorem dX8_sends_98 : decode cX8_sends 98 = .ok (.invokevirtual 37, 3) := by decide +kernel
theorem dX8_sends_101 : decode cX8_sends 101 = .ok (.iastore, 1) := by decide +kernel
theorem dX8_sends_102 : decode cX8_sends 102 = .ok (.aload_n 0, 1) := by decide +kernel
theorem dX8_sends_103 : decode cX8_sends 103 = .ok (.getfield 7, 3) := by decide +kernel
theorem dX8_sends_106 : decode cX8_sends 106 = .ok (.iload_n 2, 1) := by decide +kernel
theorem dX8_sends_107 : decode cX8_sends 107 = .ok (.iconst 5, 1) := by decide +kernel
theorem dX8_sends_108 : decode cX8_sends 108 = .ok (.iadd, 1) := by decide +kernel
theorem dX8_sends_109 : decode cX8_sends 109 = .ok (.aload_n 0, 1) := by decide +kernel
theorem dX8_sends_110 : decode cX8_sends 110 = .ok (.iconst 0, 1) := by decide +kernel
theorem dX8_sends_111 : decode cX8_sends 111 = .ok (.bipush 6, 2) := by decide +kernel
theorem dX8_sends_113 : decode cX8_sends 113 = .ok (.invokevirtual 37, 3) := by decide +kernel
theorem dX8_sends_116 : decode cX8_sends 116 = .ok (.iastore, 1) := by decide +kernel
theorem dX8_sends_117 : decode cX8_sends 117 = .ok (.aload_n 0, 1) := by decide +kernel
theorem dX8_sends_118 : decode cX8_sends 118 = .ok (.getfield 7, 3) := by decide +kernel
theorem dX8_sends_121 : decode cX8_sends 121 = .ok (.bipush 105, 2) := by decide +kernel
theorem dX8_sends_123 : decode cX8_sends 123 = .ok (.dup2, 1) := by decide +kernel
theorem dX8_sends_124 : decode cX8_sends 124 = .ok (.iaload, 1) := by decide +kernel
theorem dX8_sends_125 : decode cX8_sends 125 = .ok (.iconst 1, 1) := by decide +kernel
theorem dX8_sends_126 : decode cX8_sends 126 = .ok (.iadd, 1) := by decide +kernel
theorem dX8_sends_127 : decode cX8_sends 127 = .ok (.iastore, 1) := by decide +kernel
theorem dX8_sends_128 : decode cX8_sends 128 = .ok (.aload_n 0, 1) := by decide +kernel
theorem dX8_sends_129 : decode cX8_sends 129 = .ok (.invokevirtual 64, 3) := by decide +kernel
theorem dX8_sends_132 : decode cX8_sends 132 = .ok (.iload_n 3, 1) := by decide +kernel
theorem dX8_sends_133 : decode cX8_sends 133 = .ok (.ireturn, 1) := by decide +kernel
theorem dX8_hour_0 : decode cX8_hour 0 = .ok (.iconst 0, 1) := by decide +kernel
theorem dX8_hour_1 : decode cX8_hour 1 = .ok (.istore_n 2, 1) := by decide +kernel
theorem dX8_hour_2 : decode cX8_hour 2 = .ok (.iconst 0, 1) := by decide +kernel
theorem dX8_hour_3 : decode cX8_hour 3 = .ok (.istore_n 3, 1) := by decide +kernel
theorem dX8_hour_4 : decode cX8_hour 4 = .ok (.iload_n 3, 1) := by decide +kernel
theorem dX8_hour_5 : decode cX8_hour 5 = .ok (.bipush 6, 2) := by decide +kernel
theorem dX8_hour_7 : decode cX8_hour 7 = .ok (.if_icmp .ge 106, 3) := by decide +kernel
theorem dX8_hour_10 : decode cX8_hour 10 = .ok (.iload_n 1, 1) := by decide +kernel
theorem dX8_hour_11 : decode cX8_hour 11 = .ok (.aload_n 0, 1) := by decide +kernel
theorem dX8_hour_12 : decode cX8_hour 12 = .ok (.iload_n 3, 1) := by decide +kernel
theorem dX8_hour_13 : decode cX8_hour 13 = .ok (.iconst 0, 1) := by decide +kernel
theorem dX8_hour_14 : decode cX8_hour 14 = .ok (.invokevirtual 37, 3) := by decide +kernel
theorem dX8_hour_17 : decode cX8_hour 17 = .ok (.imul, 1) := by decide +kernel
theorem dX8_hour_18 : decode cX8_hour 18 = .ok (.aload_n 0, 1) := by decide +kernel
theorem dX8_hour_19 : decode cX8_hour 19 = .ok (.iload_n 3, 1) := by decide +kernel
theorem dX8_hour_20 : decode cX8_hour 20 = .ok (.iconst 2, 1) := by decide +kernel
theorem dX8_hour_21 : decode cX8_hour 21 = .ok (.invokevirtual 37, 3) := by decide +kernel
theorem dX8_hour_24 : decode cX8_hour 24 = .ok (.imul, 1) := by decide +kernel
theorem dX8_hour_25 : decode cX8_hour 25 = .ok (.bipush 100, 2) := by decide +kernel
theorem dX8_hour_27 : decode cX8_hour 27 = .ok (.idiv, 1) := by decide +kernel
theorem dX8_hour_28 : decode cX8_hour 28 = .ok (.istore 4, 2) := by decide +kernel
theorem dX8_hour_30 : decode cX8_hour 30 = .ok (.aload_n 0, 1) := by decide +kernel
theorem dX8_hour_31 : decode cX8_hour 31 = .ok (.iload_n 3, 1) := by decide +kernel
theorem dX8_hour_32 : decode cX8_hour 32 = .ok (.bipush 6, 2) := by decide +kernel
theorem dX8_hour_34 : decode cX8_hour 34 = .ok (.iload 4, 2) := by decide +kernel
theorem dX8_hour_36 : decode cX8_hour 36 = .ok (.invokevirtual 41, 3) := by decide +kernel
theorem dX8_hour_39 : decode cX8_hour 39 = .ok (.aload_n 0, 1) := by decide +kernel
theorem dX8_hour_40 : decode cX8_hour 40 = .ok (.iload_n 3, 1) := by decide +kernel
theorem dX8_hour_41 : decode cX8_hour 41 = .ok (.iconst 4, 1) := by decide +kernel
theorem dX8_hour_42 : decode cX8_hour 42 = .ok (.iload 4, 2) := by decide +kernel
theorem dX8_hour_44 : decode cX8_hour 44 = .ok (.invokevirtual 41, 3) := by decide +kernel
theorem dX8_hour_47 : decode cX8_hour 47 = .ok (.aload_n 0, 1) := by decide +kernel
theorem dX8_hour_48 : decode cX8_hour 48 = .ok (.iload_n 3, 1) := by decide +kernel
theorem dX8_hour_49 : decode cX8_hour 49 = .ok (.iconst 4, 1) := by decide +kernel
theorem dX8_hour_50 : decode cX8_hour 50 = .ok (.invokevirtual 37, 3) := by decide +kernel
theorem dX8_hour_53 : decode cX8_hour 53 = .ok (.aload_n 0, 1) := by decide +kernel
theorem dX8_hour_54 : decode cX8_hour 54 = .ok (.iload_n 3, 1) := by decide +kernel
theorem dX8_hour_55 : decode cX8_hour 55 = .ok (.iconst 1, 1) := by decide +kernel
theorem dX8_hour_56 : decode cX8_hour 56 = .ok (.invokevirtual 37, 3) := by decide +kernel
theorem dX8_hour_59 : decode cX8_hour 59 = .ok (.idiv, 1) := by decide +kernel
theorem dX8_hour_60 : decode cX8_hour 60 = .ok (.istore 5, 2) := by decide +kernel
theorem dX8_hour_62 : decode cX8_hour 62 = .ok (.aload_n 0, 1) := by decide +kernel
theorem dX8_hour_63 : decode cX8_hour 63 = .ok (.iload_n 3, 1) := by decide +kernel
theorem dX8_hour_64 : decode cX8_hour 64 = .ok (.iconst 4, 1) := by decide +kernel
theorem dX8_hour_65 : decode cX8_hour 65 = .ok (.iload 5, 2) := by decide +kernel
theorem dX8_hour_67 : decode cX8_hour 67 = .ok (.ineg, 1) := by decide +kernel
theorem dX8_hour_68 : decode cX8_hour 68 = .ok (.aload_n 0, 1) := by decide +kernel
theorem dX8_hour_69 : decode cX8_hour 69 = .ok (.iload_n 3, 1) := by decide +kernel
theorem dX8_hour_70 : decode cX8_hour 70 = .ok (.iconst 1, 1) := by decide +kernel
theorem dX8_hour_71 : decode cX8_hour 71 = .ok (.invokevirtual 37, 3) := by decide +kernel
theorem dX8_hour_74 : decode cX8_hour 74 = .ok (.imul, 1) := by decide +kernel
theorem dX8_hour_75 : decode cX8_hour 75 = .ok (.invokevirtual 41, 3) := by decide +kernel
theorem dX8_hour_78 : decode cX8_hour 78 = .ok (.aload_n 0, 1) := by decide +kernel
theorem dX8_hour_79 : decode cX8_hour 79 = .ok (.iload_n 3, 1) := by decide +kernel
theorem dX8_hour_80 : decode cX8_hour 80 = .ok (.bipush 7, 2) := by decide +kernel
theorem dX8_hour_82 : decode cX8_hour 82 = .ok (.iload 5, 2) := by decide +kernel
theorem dX8_hour_84 : decode cX8_hour 84 = .ok (.aload_n 0, 1) := by decide +kernel
theorem dX8_hour_85 : decode cX8_hour 85 = .ok (.iload_n 3, 1) := by decide +kernel
theorem dX8_hour_86 : decode cX8_hour 86 = .ok (.iconst 1, 1) := by decide +kernel
theorem dX8_hour_87 : decode cX8_hour 87 = .ok (.invokevirtual 37, 3) := by decide +kernel
theorem dX8_hour_90 : decode cX8_hour 90 = .ok (.imul, 1) := by decide +kernel
theorem dX8_hour_91 : decode cX8_hour 91 = .ok (.invokevirtual 41, 3) := by decide +kernel
theorem dX8_hour_94 : decode cX8_hour 94 = .ok (.aload_n 0, 1) := by decide +kernel
theorem dX8_hour_95 : decode cX8_hour 95 = .ok (.iload_n 3, 1) := by decide +kernel
theorem dX8_hour_96 : decode cX8_hour 96 = .ok (.iconst 5, 1) := by decide +kernel
theorem dX8_hour_97 : decode cX8_hour 97 = .ok (.iload 5, 2) := by decide +kernel
theorem dX8_hour_99 : decode cX8_hour 99 = .ok (.invokevirtual 41, 3) := by decide +kernel
theorem dX8_hour_102 : decode cX8_hour 102 = .ok (.iload_n 2, 1) := by decide +kernel
theorem dX8_hour_103 : decode cX8_hour 103 = .ok (.iload 5, 2) := by decide +kernel
theorem dX8_hour_105 : decode cX8_hour 105 = .ok (.iadd, 1) := by decide +kernel
theorem dX8_hour_106 : decode cX8_hour 106 = .ok (.istore_n 2, 1) := by decide +kernel
theorem dX8_hour_107 : decode cX8_hour 107 = .ok (.iinc 3 1, 3) := by decide +kernel
theorem dX8_hour_110 : decode cX8_hour 110 = .ok (.goto (-106), 3) := by decide +kernel
theorem dX8_hour_113 : decode cX8_hour 113 = .ok (.aload_n 0, 1) := by decide +kernel
theorem dX8_hour_114 : decode cX8_hour 114 = .ok (.getfield 7, 3) := by decide +kernel
theorem dX8_hour_117 : decode cX8_hour 117 = .ok (.bipush 104, 2) := by decide +kernel
theorem dX8_hour_119 : decode cX8_hour 119 = .ok (.dup2, 1) := by decide +kernel
theorem dX8_hour_120 : decode cX8_hour 120 = .ok (.iaload, 1) := by decide +kernel
theorem dX8_hour_121 : decode cX8_hour 121 = .ok (.iconst 1, 1) := by decide +kernel
theorem dX8_hour_122 : decode cX8_hour 122 = .ok (.iadd, 1) := by decide +kernel
theorem dX8_hour_123 : decode cX8_hour 123 = .ok (.iastore, 1) := by decide +kernel
theorem dX8_hour_124 : decode cX8_hour 124 = .ok (.aload_n 0, 1) := by decide +kernel
theorem dX8_hour_125 : decode cX8_hour 125 = .ok (.invokevirtual 64, 3) := by decide +kernel
theorem dX8_hour_128 : decode cX8_hour 128 = .ok (.iload_n 2, 1) := by decide +kernel
theorem dX8_hour_129 : decode cX8_hour 129 = .ok (.ireturn, 1) := by decide +kernel
theorem dX8_rains_0 : decode cX8_rains 0 = .ok (.iconst 0, 1) := by decide +kernel
theorem dX8_rains_1 : decode cX8_rains 1 = .ok (.istore_n 3, 1) := by decide +kernel
theorem dX8_rains_2 : decode cX8_rains 2 = .ok (.iconst 0, 1) := by decide +kernel
theorem dX8_rains_3 : decode cX8_rains 3 = .ok (.istore 4, 2) := by decide +kernel
theorem dX8_rains_5 : decode cX8_rains 5 = .ok (.iload 4, 2) := by decide +kernel
theorem dX8_rains_7 : decode cX8_rains 7 = .ok (.iload_n 2, 1) := by decide +kernel
theorem dX8_rains_8 : decode cX8_rains 8 = .ok (.if_icmp .ge 17, 3) := by decide +kernel
theorem dX8_rains_11 : decode cX8_rains 11 = .ok (.iload_n 3, 1) := by decide +kernel
theorem dX8_rains_12 : decode cX8_rains 12 = .ok (.aload_n 0, 1) := by decide +kernel
theorem dX8_rains_13 : decode cX8_rains 13 = .ok (.iload_n 1, 1) := by decide +kernel
theorem dX8_rains_14 : decode cX8_rains 14 = .ok (.invokevirtual 67, 3) := by decide +kernel
theorem dX8_rains_17 : decode cX8_rains 17 = .ok (.iadd, 1) := by decide +kernel
theorem dX8_rains_18 : decode cX8_rains 18 = .ok (.istore_n 3, 1) := by decide +kernel
theorem dX8_rains_19 : decode cX8_rains 19 = .ok (.iinc 4 1, 3) := by decide +kernel
theorem dX8_rains_22 : decode cX8_rains 22 = .ok (.goto (-17), 3) := by decide +kernel
theorem dX8_rains_25 : decode cX8_rains 25 = .ok (.iload_n 3, 1) := by decide +kernel
theorem dX8_rains_26 : decode cX8_rains 26 = .ok (.ireturn, 1) := by decide +kernel
theorem dX8_set_0 : decode cX8_set 0 = .ok (.iload_n 1, 1) := by decide +kernel
theorem dX8_set_1 : decode cX8_set 1 = .ok (.iconst 0, 1) := by decide +kernel
theorem dX8_set_2 : decode cX8_set 2 = .ok (.iconst 1, 1) := by decide +kernel
theorem dX8_set_3 : decode cX8_set 3 = .ok (.invokestatic 29, 3) := by decide +kernel
theorem dX8_set_6 : decode cX8_set 6 = .ok (.ifCond .eq 29, 3) := by decide +kernel
theorem dX8_set_9 : decode cX8_set 9 = .ok (.iload_n 2, 1) := by decide +kernel
theorem dX8_set_10 : decode cX8_set 10 = .ok (.iload_n 1, 1) := by decide +kernel
theorem dX8_set_11 : decode cX8_set 11 = .ok (.ifCond .ne 7, 3) := by decide +kernel
theorem dX8_set_14 : decode cX8_set 14 = .ok (.iconst 4, 1) := by decide +kernel
theorem dX8_set_15 : decode cX8_set 15 = .ok (.goto 4, 3) := by decide +kernel
theorem dX8_set_18 : decode cX8_set 18 = .ok (.iconst 0, 1) := by decide +kernel
theorem dX8_set_19 : decode cX8_set 19 = .ok (.iload_n 1, 1) := by decide +kernel
theorem dX8_set_20 : decode cX8_set 20 = .ok (.ifCond .ne 8, 3) := by decide +kernel
theorem dX8_set_23 : decode cX8_set 23 = .ok (.bipush 60, 2) := by decide +kernel
theorem dX8_set_25 : decode cX8_set 25 = .ok (.goto 4, 3) := by decide +kernel
theorem dX8_set_28 : decode cX8_set 28 = .ok (.iconst 1, 1) := by decide +kernel
theorem dX8_set_29 : decode cX8_set 29 = .ok (.invokestatic 29, 3) := by decide +kernel
theorem dX8_set_32 : decode cX8_set 32 = .ok (.ifCond .ne 6, 3) := by decide +kernel
theorem dX8_set_35 : decode cX8_set 35 = .ok (.ldc 70, 2) := by decide +kernel
theorem dX8_set_37 : decode cX8_set 37 = .ok (.ireturn, 1) := by decide +kernel
theorem dX8_set_38 : decode cX8_set 38 = .ok (.aload_n 0, 1) := by decide +kernel
theorem dX8_set_39 : decode cX8_set 39 = .ok (.invokevirtual 71, 3) := by decide +kernel
theorem dX8_set_42 : decode cX8_set 42 = .ok (.aload_n 0, 1) := by decide +kernel
theorem dX8_set_43 : decode cX8_set 43 = .ok (.getfield 7, 3) := by decide +kernel
theorem dX8_set_46 : decode cX8_set 46 = .ok (.bipush 102, 2) := by decide +kernel
theorem dX8_set_48 : decode cX8_set 48 = .ok (.iload_n 1, 1) := by decide +kernel
theorem dX8_set_49 : decode cX8_set 49 = .ok (.iadd, 1) := by decide +kernel
theorem dX8_set_50 : decode cX8_set 50 = .ok (.iaload, 1) := by decide +kernel
theorem dX8_set_51 : decode cX8_set 51 = .ok (.istore_n 3, 1) := by decide +kernel
theorem dX8_set_52 : decode cX8_set 52 = .ok (.aload_n 0, 1) := by decide +kernel
theorem dX8_set_53 : decode cX8_set 53 = .ok (.getfield 7, 3) := by decide +kernel
theorem dX8_set_56 : decode cX8_set 56 = .ok (.bipush 102, 2) := by decide +kernel
theorem dX8_set_58 : decode cX8_set 58 = .ok (.iload_n 1, 1) := by decide +kernel
theorem dX8_set_59 : decode cX8_set 59 = .ok (.iadd, 1) := by decide +kernel
theorem dX8_set_60 : decode cX8_set 60 = .ok (.iload_n 2, 1) := by decide +kernel
theorem dX8_set_61 : decode cX8_set 61 = .ok (.iastore, 1) := by decide +kernel
theorem dX8_set_62 : decode cX8_set 62 = .ok (.iload_n 1, 1) := by decide +kernel
theorem dX8_set_63 : decode cX8_set 63 = .ok (.ifCond .ne 73, 3) := by decide +kernel
theorem dX8_set_66 : decode cX8_set 66 = .ok (.aload_n 0, 1) := by decide +kernel
theorem dX8_set_67 : decode cX8_set 67 = .ok (.getfield 7, 3) := by decide +kernel
theorem dX8_set_70 : decode cX8_set 70 = .ok (.bipush 105, 2) := by decide +kernel
theorem dX8_set_72 : decode cX8_set 72 = .ok (.iaload, 1) := by decide +kernel
theorem dX8_set_73 : decode cX8_set 73 = .ok (.ifCond .le 24, 3) := by decide +kernel
theorem dX8_set_76 : decode cX8_set 76 = .ok (.aload_n 0, 1) := by decide +kernel
theorem dX8_set_77 : decode cX8_set 77 = .ok (.aload_n 0, 1) := by decide +kernel
theorem dX8_set_78 : decode cX8_set 78 = .ok (.iconst 0, 1) := by decide +kernel
theorem dX8_set_79 : decode cX8_set 79 = .ok (.iconst 0, 1) := by decide +kernel
theorem dX8_set_80 : decode cX8_set 80 = .ok (.invokevirtual 49, 3) := by decide +kernel
theorem dX8_set_83 : decode cX8_set 83 = .ok (.bipush 16, 2) := by decide +kernel
theorem dX8_set_85 : decode cX8_set 85 = .ok (.iconst 1, 1) := by decide +kernel
theorem dX8_set_86 : decode cX8_set 86 = .ok (.invokevirtual 41, 3) := by decide +kernel
theorem dX8_set_89 : decode cX8_set 89 = .ok (.aload_n 0, 1) := by decide +kernel
theorem dX8_set_90 : decode cX8_set 90 = .ok (.iconst 0, 1) := by decide +kernel
theorem dX8_set_91 : decode cX8_set 91 = .ok (.invokevirtual 56, 3) := by decide +kernel
theorem dX8_set_94 : decode cX8_set 94 = .ok (.goto (-28), 3) := by decide +kernel
theorem dX8_set_97 : decode cX8_set 97 = .ok (.iconst 0, 1) := by decide +kernel
theorem dX8_set_98 : decode cX8_set 98 = .ok (.istore 4, 2) := by decide +kernel
theorem dX8_set_100 : decode cX8_set 100 = .ok (.iload 4, 2) := by decide +kernel
theorem dX8_set_102 : decode cX8_set 102 = .ok (.bipush 6, 2) := by decide +kernel
theorem dX8_set_104 : decode cX8_set 104 = .ok (.if_icmp .ge 32, 3) := by decide +kernel
theorem dX8_set_107 : decode cX8_set 107 = .ok (.aload_n 0, 1) := by decide +kernel
theorem dX8_set_108 : decode cX8_set 108 = .ok (.getfield 7, 3) := by decide +kernel
theorem dX8_set_111 : decode cX8_set 111 = .ok (.bipush 17, 2) := by decide +kernel
theorem dX8_set_113 : decode cX8_set 113 = .ok (.iload 4, 2) := by decide +kernel
theorem dX8_set_115 : decode cX8_set 115 = .ok (.imul, 1) := by decide +kernel
theorem dX8_set_116 : decode cX8_set 116 = .ok (.bipush 10, 2) := by decide +kernel
theorem dX8_set_118 : decode cX8_set 118 = .ok (.iadd, 1) := by decide +kernel
theorem dX8_set_119 : decode cX8_set 119 = .ok (.aload_n 0, 1) := by decide +kernel
theorem dX8_set_120 : decode cX8_set 120 = .ok (.iload 4, 2) := by decide +kernel
theorem dX8_set_122 : decode cX8_set 122 = .ok (.bipush 11, 2) := by decide +kernel
theorem dX8_set_124 : decode cX8_set 124 = .ok (.invokevirtual 37, 3) := by decide +kernel
theorem dX8_set_127 : decode cX8_set 127 = .ok (.iload_n 2, 1) := by decide +kernel
theorem dX8_set_128 : decode cX8_set 128 = .ok (.irem, 1) := by decide +kernel
theorem dX8_set_129 : decode cX8_set 129 = .ok (.iastore, 1) := by decide +kernel
theorem dX8_set_130 : decode cX8_set 130 = .ok (.iinc 4 1, 3) := by decide +kernel
theorem dX8_set_133 : decode cX8_set 133 = .ok (.goto (-33), 3) := by decide +kernel
theorem dX8_set_136 : decode cX8_set 136 = .ok (.iload_n 3, 1) := by decide +kernel
theorem dX8_set_137 : decode cX8_set 137 = .ok (.ireturn, 1) := by decide +kernel
theorem dX8_gauge_0 : decode cX8_gauge 0 = .ok (.iload_n 1, 1) := by decide +kernel
theorem dX8_gauge_1 : decode cX8_gauge 1 = .ok (.invokestatic 74, 3) := by decide +kernel
theorem dX8_gauge_4 : decode cX8_gauge 4 = .ok (.ifCond .ne 6, 3) := by decide +kernel
theorem dX8_gauge_7 : decode cX8_gauge 7 = .ok (.ldc 78, 2) := by decide +kernel
theorem dX8_gauge_9 : decode cX8_gauge 9 = .ok (.ireturn, 1) := by decide +kernel
theorem dX8_gauge_10 : decode cX8_gauge 10 = .ok (.iload_n 2, 1) := by decide +kernel
theorem dX8_gauge_11 : decode cX8_gauge 11 = .ok (.iconst 1, 1) := by decide +kernel
theorem dX8_gauge_12 : decode cX8_gauge 12 = .ok (.bipush 9, 2) := by decide +kernel
theorem dX8_gauge_14 : decode cX8_gauge 14 = .ok (.invokestatic 29, 3) := by decide +kernel
theorem dX8_gauge_17 : decode cX8_gauge 17 = .ok (.ifCond .eq 36, 3) := by decide +kernel
theorem dX8_gauge_20 : decode cX8_gauge 20 = .ok (.iload_n 3, 1) := by decide +kernel
theorem dX8_gauge_21 : decode cX8_gauge 21 = .ok (.iconst 1, 1) := by decide +kernel
theorem dX8_gauge_22 : decode cX8_gauge 22 = .ok (.bipush 50, 2) := by decide +kernel
theorem dX8_gauge_24 : decode cX8_gauge 24 = .ok (.invokestatic 29, 3) := by decide +kernel
theorem dX8_gauge_27 : decode cX8_gauge 27 = .ok (.ifCond .eq 26, 3) := by decide +kernel
theorem dX8_gauge_30 : decode cX8_gauge 30 = .ok (.iload 4, 2) := by decide +kernel
theorem dX8_gauge_32 : decode cX8_gauge 32 = .ok (.iconst 0, 1) := by decide +kernel
theorem dX8_gauge_33 : decode cX8_gauge 33 = .ok (.sipush 200, 3) := by decide +kernel
theorem dX8_gauge_36 : decode cX8_gauge 36 = .ok (.invokestatic 29, 3) := by decide +kernel
theorem dX8_gauge_39 : decode cX8_gauge 39 = .ok (.ifCond .eq 14, 3) := by decide +kernel
theorem dX8_gauge_42 : decode cX8_gauge 42 = .ok (.iload 5, 2) := by decide +kernel
theorem dX8_gauge_44 : decode cX8_gauge 44 = .ok (.iconst 0, 1) := by decide +kernel
theorem dX8_gauge_45 : decode cX8_gauge 45 = .ok (.bipush 9, 2) := by decide +kernel
theorem dX8_gauge_47 : decode cX8_gauge 47 = .ok (.invokestatic 29, 3) := by decide +kernel
theorem dX8_gauge_50 : decode cX8_gauge 50 = .ok (.ifCond .ne 6, 3) := by decide +kernel
theorem dX8_gauge_53 : decode cX8_gauge 53 = .ok (.ldc 70, 2) := by decide +kernel
theorem dX8_gauge_55 : decode cX8_gauge 55 = .ok (.ireturn, 1) := by decide +kernel
theorem dX8_gauge_56 : decode cX8_gauge 56 = .ok (.aload_n 0, 1) := by decide +kernel
theorem dX8_gauge_57 : decode cX8_gauge 57 = .ok (.invokevirtual 71, 3) := by decide +kernel
theorem dX8_gauge_60 : decode cX8_gauge 60 = .ok (.aload_n 0, 1) := by decide +kernel
theorem dX8_gauge_61 : decode cX8_gauge 61 = .ok (.getfield 7, 3) := by decide +kernel
theorem dX8_gauge_64 : decode cX8_gauge 64 = .ok (.bipush 17, 2) := by decide +kernel
theorem dX8_gauge_66 : decode cX8_gauge 66 = .ok (.iload_n 1, 1) := by decide +kernel
theorem dX8_gauge_67 : decode cX8_gauge 67 = .ok (.imul, 1) := by decide +kernel
theorem dX8_gauge_68 : decode cX8_gauge 68 = .ok (.iconst 0, 1) := by decide +kernel
theorem dX8_gauge_69 : decode cX8_gauge 69 = .ok (.iadd, 1) := by decide +kernel
theorem dX8_gauge_70 : decode cX8_gauge 70 = .ok (.iload_n 2, 1) := by decide +kernel
theorem dX8_gauge_71 : decode cX8_gauge 71 = .ok (.iastore, 1) := by decide +kernel
theorem dX8_gauge_72 : decode cX8_gauge 72 = .ok (.aload_n 0, 1) := by decide +kernel
theorem dX8_gauge_73 : decode cX8_gauge 73 = .ok (.getfield 7, 3) := by decide +kernel
theorem dX8_gauge_76 : decode cX8_gauge 76 = .ok (.bipush 17, 2) := by decide +kernel
theorem dX8_gauge_78 : decode cX8_gauge 78 = .ok (.iload_n 1, 1) := by decide +kernel
theorem dX8_gauge_79 : decode cX8_gauge 79 = .ok (.imul, 1) := by decide +kernel
theorem dX8_gauge_80 : decode cX8_gauge 80 = .ok (.iconst 1, 1) := by decide +kernel
theorem dX8_gauge_81 : decode cX8_gauge 81 = .ok (.iadd, 1) := by decide +kernel
theorem dX8_gauge_82 : decode cX8_gauge 82 = .ok (.iload_n 3, 1) := by decide +kernel
theorem dX8_gauge_83 : decode cX8_gauge 83 = .ok (.iastore, 1) := by decide +kernel
theorem dX8_gauge_84 : decode cX8_gauge 84 = .ok (.aload_n 0, 1) := by decide +kernel
theorem dX8_gauge_85 : decode cX8_gauge 85 = .ok (.getfield 7, 3) := by decide +kernel
theorem dX8_gauge_88 : decode cX8_gauge 88 = .ok (.bipush 17, 2) := by decide +kernel
theorem dX8_gauge_90 : decode cX8_gauge 90 = .ok (.iload_n 1, 1) := by decide +kernel
theorem dX8_gauge_91 : decode cX8_gauge 91 = .ok (.imul, 1) := by decide +kernel
theorem dX8_gauge_92 : decode cX8_gauge 92 = .ok (.iconst 2, 1) := by decide +kernel
theorem dX8_gauge_93 : decode cX8_gauge 93 = .ok (.iadd, 1) := by decide +kernel
theorem dX8_gauge_94 : decode cX8_gauge 94 = .ok (.iload 4, 2) := by decide +kernel
theorem dX8_gauge_96 : decode cX8_gauge 96 = .ok (.iastore, 1) := by decide +kernel
theorem dX8_gauge_97 : decode cX8_gauge 97 = .ok (.aload_n 0, 1) := by decide +kernel
theorem dX8_gauge_98 : decode cX8_gauge 98 = .ok (.getfield 7, 3) := by decide +kernel
theorem dX8_gauge_101 : decode cX8_gauge 101 = .ok (.bipush 17, 2) := by decide +kernel
theorem dX8_gauge_103 : decode cX8_gauge 103 = .ok (.iload_n 1, 1) := by decide +kernel
theorem dX8_gauge_104 : decode cX8_gauge 104 = .ok (.imul, 1) := by decide +kernel
theorem dX8_gauge_105 : decode cX8_gauge 105 = .ok (.iconst 3, 1) := by decide +kernel
theorem dX8_gauge_106 : decode cX8_gauge 106 = .ok (.iadd, 1) := by decide +kernel
theorem dX8_gauge_107 : decode cX8_gauge 107 = .ok (.iload 5, 2) := by decide +kernel
theorem dX8_gauge_109 : decode cX8_gauge 109 = .ok (.iastore, 1) := by decide +kernel
theorem dX8_gauge_110 : decode cX8_gauge 110 = .ok (.aload_n 0, 1) := by decide +kernel
theorem dX8_gauge_111 : decode cX8_gauge 111 = .ok (.iload_n 1, 1) := by decide +kernel
theorem dX8_gauge_112 : decode cX8_gauge 112 = .ok (.iconst 4, 1) := by decide +kernel
theorem dX8_gauge_113 : decode cX8_gauge 113 = .ok (.invokevirtual 37, 3) := by decide +kernel
theorem dX8_gauge_116 : decode cX8_gauge 116 = .ok (.ireturn, 1) := by decide +kernel
theorem dX8_rainError_0 : decode cX8_rainError 0 = .ok (.iload_n 1, 1) := by decide +kernel
theorem dX8_rainError_1 : decode cX8_rainError 1 = .ok (.iconst 0, 1) := by decide +kernel
theorem dX8_rainError_2 : decode cX8_rainError 2 = .ok (.bipush 99, 2) := by decide +kernel
theorem dX8_rainError_4 : decode cX8_rainError 4 = .ok (.invokestatic 29, 3) := by decide +kernel
theorem dX8_rainError_7 : decode cX8_rainError 7 = .ok (.ifCond .eq 13, 3) := by decide +kernel
theorem dX8_rainError_10 : decode cX8_rainError 10 = .ok (.iload_n 2, 1) := by decide +kernel
theorem dX8_rainError_11 : decode cX8_rainError 11 = .ok (.iconst 1, 1) := by decide +kernel
theorem dX8_rainError_12 : decode cX8_rainError 12 = .ok (.bipush 24, 2) := by decide +kernel
theorem dX8_rainError_14 : decode cX8_rainError 14 = .ok (.invokestatic 29, 3) := by decide +kernel
theorem dX8_rainError_17 : decode cX8_rainError 17 = .ok (.ifCond .ne 8, 3) := by decide +kernel
theorem dX8_rainError_20 : decode cX8_rainError 20 = .ok (.ldc 70, 2) := by decide +kernel
theorem dX8_rainError_22 : decode cX8_rainError 22 = .ok (.goto 24, 3) := by decide +kernel
theorem dX8_rainError_25 : decode cX8_rainError 25 = .ok (.aload_n 0, 1) := by decide +kernel
theorem dX8_rainError_26 : decode cX8_rainError 26 = .ok (.getfield 7, 3) := by decide +kernel
theorem dX8_rainError_29 : decode cX8_rainError 29 = .ok (.bipush 104, 2) := by decide +kernel
theorem dX8_rainError_31 : decode cX8_rainError 31 = .ok (.iaload, 1) := by decide +kernel
theorem dX8_rainError_32 : decode cX8_rainError 32 = .ok (.iload_n 2, 1) := by decide +kernel
theorem dX8_rainError_33 : decode cX8_rainError 33 = .ok (.iadd, 1) := by decide +kernel
theorem dX8_rainError_34 : decode cX8_rainError 34 = .ok (.sipush 9999, 3) := by decide +kernel
theorem dX8_rainError_37 : decode cX8_rainError 37 = .ok (.if_icmp .le 8, 3) := by decide +kernel
theorem dX8_rainError_40 : decode cX8_rainError 40 = .ok (.ldc 60, 2) := by decide +kernel
theorem dX8_rainError_42 : decode cX8_rainError 42 = .ok (.goto 4, 3) := by decide +kernel
theorem dX8_rainError_45 : decode cX8_rainError 45 = .ok (.iconst 0, 1) := by decide +kernel
theorem dX8_rainError_46 : decode cX8_rainError 46 = .ok (.ireturn, 1) := by decide +kernel
theorem dX8_rain_0 : decode cX8_rain 0 = .ok (.aload_n 0, 1) := by decide +kernel
theorem dX8_rain_1 : decode cX8_rain 1 = .ok (.iload_n 1, 1) := by decide +kernel
theorem dX8_rain_2 : decode cX8_rain 2 = .ok (.iload_n 2, 1) := by decide +kernel
theorem dX8_rain_3 : decode cX8_rain 3 = .ok (.invokevirtual 79, 3) := by decide +kernel
theorem dX8_rain_6 : decode cX8_rain 6 = .ok (.istore_n 3, 1) := by decide +kernel
theorem dX8_rain_7 : decode cX8_rain 7 = .ok (.iload_n 3, 1) := by decide +kernel
theorem dX8_rain_8 : decode cX8_rain 8 = .ok (.ifCond .ge 5, 3) := by decide +kernel
theorem dX8_rain_11 : decode cX8_rain 11 = .ok (.iload_n 3, 1) := by decide +kernel
theorem dX8_rain_12 : decode cX8_rain 12 = .ok (.ireturn, 1) := by decide +kernel
theorem dX8_rain_13 : decode cX8_rain 13 = .ok (.aload_n 0, 1) := by decide +kernel
theorem dX8_rain_14 : decode cX8_rain 14 = .ok (.invokevirtual 71, 3) := by decide +kernel
theorem dX8_rain_17 : decode cX8_rain 17 = .ok (.aload_n 0, 1) := by decide +kernel
theorem dX8_rain_18 : decode cX8_rain 18 = .ok (.iload_n 1, 1) := by decide +kernel
theorem dX8_rain_19 : decode cX8_rain 19 = .ok (.iload_n 2, 1) := by decide +kernel
theorem dX8_rain_20 : decode cX8_rain 20 = .ok (.invokevirtual 82, 3) := by decide +kernel
theorem dX8_rain_23 : decode cX8_rain 23 = .ok (.ireturn, 1) := by decide +kernel
theorem dX8_send_0 : decode cX8_send 0 = .ok (.iload_n 1, 1) := by decide +kernel
theorem dX8_send_1 : decode cX8_send 1 = .ok (.invokestatic 74, 3) := by decide +kernel
theorem dX8_send_4 : decode cX8_send 4 = .ok (.ifCond .ne 6, 3) := by decide +kernel
theorem dX8_send_7 : decode cX8_send 7 = .ok (.ldc 78, 2) := by decide +kernel
theorem dX8_send_9 : decode cX8_send 9 = .ok (.ireturn, 1) := by decide +kernel
theorem dX8_send_10 : decode cX8_send 10 = .ok (.aload_n 0, 1) := by decide +kernel
theorem dX8_send_11 : decode cX8_send 11 = .ok (.getfield 7, 3) := by decide +kernel
theorem dX8_send_14 : decode cX8_send 14 = .ok (.bipush 105, 2) := by decide +kernel
theorem dX8_send_16 : decode cX8_send 16 = .ok (.iaload, 1) := by decide +kernel
theorem dX8_send_17 : decode cX8_send 17 = .ok (.bipush 20, 2) := by decide +kernel
theorem dX8_send_19 : decode cX8_send 19 = .ok (.if_icmp .ne 6, 3) := by decide +kernel
theorem dX8_send_22 : decode cX8_send 22 = .ok (.ldc 60, 2) := by decide +kernel
theorem dX8_send_24 : decode cX8_send 24 = .ok (.ireturn, 1) := by decide +kernel
theorem dX8_send_25 : decode cX8_send 25 = .ok (.aload_n 0, 1) := by decide +kernel
theorem dX8_send_26 : decode cX8_send 26 = .ok (.invokevirtual 71, 3) := by decide +kernel
theorem dX8_send_29 : decode cX8_send 29 = .ok (.aload_n 0, 1) := by decide +kernel
theorem dX8_send_30 : decode cX8_send 30 = .ok (.iload_n 1, 1) := by decide +kernel
theorem dX8_send_31 : decode cX8_send 31 = .ok (.invokevirtual 85, 3) := by decide +kernel
theorem dX8_send_34 : decode cX8_send 34 = .ok (.ireturn, 1) := by decide +kernel
theorem dX8_lose_0 : decode cX8_lose 0 = .ok (.iload_n 1, 1) := by decide +kernel
theorem dX8_lose_1 : decode cX8_lose 1 = .ok (.iconst 0, 1) := by decide +kernel
theorem dX8_lose_2 : decode cX8_lose 2 = .ok (.aload_n 0, 1) := by decide +kernel
theorem dX8_lose_3 : decode cX8_lose 3 = .ok (.getfield 7, 3) := by decide +kernel
theorem dX8_lose_6 : decode cX8_lose 6 = .ok (.bipush 105, 2) := by decide +kernel
theorem dX8_lose_8 : decode cX8_lose 8 = .ok (.iaload, 1) := by decide +kernel
theorem dX8_lose_9 : decode cX8_lose 9 = .ok (.iconst 1, 1) := by decide +kernel
theorem dX8_lose_10 : decode cX8_lose 10 = .ok (.isub, 1) := by decide +kernel
theorem dX8_lose_11 : decode cX8_lose 11 = .ok (.invokestatic 29, 3) := by decide +kernel
theorem dX8_lose_14 : decode cX8_lose 14 = .ok (.ifCond .ne 6, 3) := by decide +kernel
theorem dX8_lose_17 : decode cX8_lose 17 = .ok (.ldc 78, 2) := by decide +kernel
theorem dX8_lose_19 : decode cX8_lose 19 = .ok (.ireturn, 1) := by decide +kernel
theorem dX8_lose_20 : decode cX8_lose 20 = .ok (.aload_n 0, 1) := by decide +kernel
theorem dX8_lose_21 : decode cX8_lose 21 = .ok (.invokevirtual 71, 3) := by decide +kernel
theorem dX8_lose_24 : decode cX8_lose 24 = .ok (.aload_n 0, 1) := by decide +kernel
theorem dX8_lose_25 : decode cX8_lose 25 = .ok (.iload_n 1, 1) := by decide +kernel
theorem dX8_lose_26 : decode cX8_lose 26 = .ok (.iconst 0, 1) := by decide +kernel
theorem dX8_lose_27 : decode cX8_lose 27 = .ok (.invokevirtual 49, 3) := by decide +kernel
theorem dX8_lose_30 : decode cX8_lose 30 = .ok (.istore_n 2, 1) := by decide +kernel
theorem dX8_lose_31 : decode cX8_lose 31 = .ok (.aload_n 0, 1) := by decide +kernel
theorem dX8_lose_32 : decode cX8_lose 32 = .ok (.iload_n 2, 1) := by decide +kernel
theorem dX8_lose_33 : decode cX8_lose 33 = .ok (.bipush 16, 2) := by decide +kernel
theorem dX8_lose_35 : decode cX8_lose 35 = .ok (.iconst 1, 1) := by decide +kernel
theorem dX8_lose_36 : decode cX8_lose 36 = .ok (.invokevirtual 41, 3) := by decide +kernel
theorem dX8_lose_39 : decode cX8_lose 39 = .ok (.aload_n 0, 1) := by decide +kernel
theorem dX8_lose_40 : decode cX8_lose 40 = .ok (.iload_n 1, 1) := by decide +kernel
theorem dX8_lose_41 : decode cX8_lose 41 = .ok (.invokevirtual 56, 3) := by decide +kernel
theorem dX8_lose_44 : decode cX8_lose 44 = .ok (.iload_n 2, 1) := by decide +kernel
theorem dX8_lose_45 : decode cX8_lose 45 = .ok (.ireturn, 1) := by decide +kernel
theorem dX8_twice_0 : decode cX8_twice 0 = .ok (.iload_n 1, 1) := by decide +kernel
theorem dX8_twice_1 : decode cX8_twice 1 = .ok (.iconst 0, 1) := by decide +kernel
theorem dX8_twice_2 : decode cX8_twice 2 = .ok (.aload_n 0, 1) := by decide +kernel
theorem dX8_twice_3 : decode cX8_twice 3 = .ok (.getfield 7, 3) := by decide +kernel
theorem dX8_twice_6 : decode cX8_twice 6 = .ok (.bipush 105, 2) := by decide +kernel
theorem dX8_twice_8 : decode cX8_twice 8 = .ok (.iaload, 1) := by decide +kernel
theorem dX8_twice_9 : decode cX8_twice 9 = .ok (.iconst 1, 1) := by decide +kernel
theorem dX8_twice_10 : decode cX8_twice 10 = .ok (.isub, 1) := by decide +kernel
theorem dX8_twice_11 : decode cX8_twice 11 = .ok (.invokestatic 29, 3) := by decide +kernel
theorem dX8_twice_14 : decode cX8_twice 14 = .ok (.ifCond .ne 6, 3) := by decide +kernel
theorem dX8_twice_17 : decode cX8_twice 17 = .ok (.ldc 78, 2) := by decide +kernel
theorem dX8_twice_19 : decode cX8_twice 19 = .ok (.ireturn, 1) := by decide +kernel
theorem dX8_twice_20 : decode cX8_twice 20 = .ok (.aload_n 0, 1) := by decide +kernel
theorem dX8_twice_21 : decode cX8_twice 21 = .ok (.getfield 7, 3) := by decide +kernel
theorem dX8_twice_24 : decode cX8_twice 24 = .ok (.bipush 105, 2) := by decide +kernel
theorem dX8_twice_26 : decode cX8_twice 26 = .ok (.iaload, 1) := by decide +kernel
theorem dX8_twice_27 : decode cX8_twice 27 = .ok (.bipush 20, 2) := by decide +kernel
theorem dX8_twice_29 : decode cX8_twice 29 = .ok (.if_icmp .ne 6, 3) := by decide +kernel
theorem dX8_twice_32 : decode cX8_twice 32 = .ok (.ldc 60, 2) := by decide +kernel
theorem dX8_twice_34 : decode cX8_twice 34 = .ok (.ireturn, 1) := by decide +kernel
theorem dX8_twice_35 : decode cX8_twice 35 = .ok (.aload_n 0, 1) := by decide +kernel
theorem dX8_twice_36 : decode cX8_twice 36 = .ok (.invokevirtual 71, 3) := by decide +kernel
theorem dX8_twice_39 : decode cX8_twice 39 = .ok (.iconst 0, 1) := by decide +kernel
theorem dX8_twice_40 : decode cX8_twice 40 = .ok (.istore_n 2, 1) := by decide +kernel
theorem dX8_twice_41 : decode cX8_twice 41 = .ok (.iload_n 2, 1) := by decide +kernel
theorem dX8_twice_42 : decode cX8_twice 42 = .ok (.bipush 6, 2) := by decide +kernel
theorem dX8_twice_44 : decode cX8_twice 44 = .ok (.if_icmp .ge 46, 3) := by decide +kernel
theorem dX8_twice_47 : decode cX8_twice 47 = .ok (.aload_n 0, 1) := by decide +kernel
theorem dX8_twice_48 : decode cX8_twice 48 = .ok (.getfield 7, 3) := by decide +kernel
theorem dX8_twice_51 : decode cX8_twice 51 = .ok (.bipush 106, 2) := by decide +kernel
theorem dX8_twice_53 : decode cX8_twice 53 = .ok (.bipush 6, 2) := by decide +kernel
theorem dX8_twice_55 : decode cX8_twice 55 = .ok (.aload_n 0, 1) := by decide +kernel
theorem dX8_twice_56 : decode cX8_twice 56 = .ok (.getfield 7, 3) := by decide +kernel
theorem dX8_twice_59 : decode cX8_twice 59 = .ok (.bipush 105, 2) := by decide +kernel
theorem dX8_twice_61 : decode cX8_twice 61 = .ok (.iaload, 1) := by decide +kernel
theorem dX8_twice_62 : decode cX8_twice 62 = .ok (.imul, 1) := by decide +kernel
theorem dX8_twice_63 : decode cX8_twice 63 = .ok (.iadd, 1) := by decide +kernel
theorem dX8_twice_64 : decode cX8_twice 64 = .ok (.iload_n 2, 1) := by decide +kernel
theorem dX8_twice_65 : decode cX8_twice 65 = .ok (.iadd, 1) := by decide +kernel
theorem dX8_twice_66 : decode cX8_twice 66 = .ok (.aload_n 0, 1) := by decide +kernel
theorem dX8_twice_67 : decode cX8_twice 67 = .ok (.iload_n 1, 1) := by decide +kernel
theorem dX8_twice_68 : decode cX8_twice 68 = .ok (.iload_n 2, 1) := by decide +kernel
theorem dX8_twice_69 : decode cX8_twice 69 = .ok (.invokevirtual 49, 3) := by decide +kernel
theorem dX8_twice_72 : decode cX8_twice 72 = .ok (.iload_n 2, 1) := by decide +kernel
theorem dX8_twice_73 : decode cX8_twice 73 = .ok (.iconst 3, 1) := by decide +kernel
theorem dX8_twice_74 : decode cX8_twice 74 = .ok (.if_icmp .ne 7, 3) := by decide +kernel
theorem dX8_twice_77 : decode cX8_twice 77 = .ok (.iconst 1, 1) := by decide +kernel
theorem dX8_twice_78 : decode cX8_twice 78 = .ok (.goto 4, 3) := by decide +kernel
theorem dX8_twice_81 : decode cX8_twice 81 = .ok (.iconst 0, 1) := by decide +kernel
theorem dX8_twice_82 : decode cX8_twice 82 = .ok (.iadd, 1) := by decide +kernel
theorem dX8_twice_83 : decode cX8_twice 83 = .ok (.iastore, 1) := by decide +kernel
theorem dX8_twice_84 : decode cX8_twice 84 = .ok (.iinc 2 1, 3) := by decide +kernel
theorem dX8_twice_87 : decode cX8_twice 87 = .ok (.goto (-46), 3) := by decide +kernel
theorem dX8_twice_90 : decode cX8_twice 90 = .ok (.aload_n 0, 1) := by decide +kernel
theorem dX8_twice_91 : decode cX8_twice 91 = .ok (.getfield 7, 3) := by decide +kernel
theorem dX8_twice_94 : decode cX8_twice 94 = .ok (.bipush 105, 2) := by decide +kernel
theorem dX8_twice_96 : decode cX8_twice 96 = .ok (.dup2, 1) := by decide +kernel
theorem dX8_twice_97 : decode cX8_twice 97 = .ok (.iaload, 1) := by decide +kernel
theorem dX8_twice_98 : decode cX8_twice 98 = .ok (.iconst 1, 1) := by decide +kernel
theorem dX8_twice_99 : decode cX8_twice 99 = .ok (.iadd, 1) := by decide +kernel
theorem dX8_twice_100 : decode cX8_twice 100 = .ok (.iastore, 1) := by decide +kernel
theorem dX8_twice_101 : decode cX8_twice 101 = .ok (.aload_n 0, 1) := by decide +kernel
theorem dX8_twice_102 : decode cX8_twice 102 = .ok (.getfield 7, 3) := by decide +kernel
theorem dX8_twice_105 : decode cX8_twice 105 = .ok (.bipush 105, 2) := by decide +kernel
theorem dX8_twice_107 : decode cX8_twice 107 = .ok (.iaload, 1) := by decide +kernel
theorem dX8_twice_108 : decode cX8_twice 108 = .ok (.ireturn, 1) := by decide +kernel
theorem dX8_sign_0 : decode cX8_sign 0 = .ok (.aload_n 0, 1) := by decide +kernel
theorem dX8_sign_1 : decode cX8_sign 1 = .ok (.getfield 88, 3) := by decide +kernel
theorem dX8_sign_4 : decode cX8_sign 4 = .ok (.aload_n 0, 1) := by decide +kernel
theorem dX8_sign_5 : decode cX8_sign 5 = .ok (.getfield 91, 3) := by decide +kernel
theorem dX8_sign_8 : decode cX8_sign 8 = .ok (.if_icmp .ge 15, 3) := by decide +kernel
theorem dX8_sign_11 : decode cX8_sign 11 = .ok (.aload_n 0, 1) := by decide +kernel
theorem dX8_sign_12 : decode cX8_sign 12 = .ok (.getfield 26, 3) := by decide +kernel
theorem dX8_sign_15 : decode cX8_sign 15 = .ok (.aload_n 0, 1) := by decide +kernel
theorem dX8_sign_16 : decode cX8_sign 16 = .ok (.getfield 88, 3) := by decide +kernel
theorem dX8_sign_19 : decode cX8_sign 19 = .ok (.iaload, 1) := by decide +kernel
theorem dX8_sign_20 : decode cX8_sign 20 = .ok (.goto 4, 3) := by decide +kernel
theorem dX8_sign_23 : decode cX8_sign 23 = .ok (.iconst 0, 1) := by decide +kernel
theorem dX8_sign_24 : decode cX8_sign 24 = .ok (.istore_n 3, 1) := by decide +kernel
theorem dX8_sign_25 : decode cX8_sign 25 = .ok (.aload_n 0, 1) := by decide +kernel
theorem dX8_sign_26 : decode cX8_sign 26 = .ok (.aload_n 0, 1) := by decide +kernel
theorem dX8_sign_27 : decode cX8_sign 27 = .ok (.getfield 94, 3) := by decide +kernel
theorem dX8_sign_30 : decode cX8_sign 30 = .ok (.ifCond .ne 23, 3) := by decide +kernel
theorem dX8_sign_33 : decode cX8_sign 33 = .ok (.aload_n 0, 1) := by decide +kernel
theorem dX8_sign_34 : decode cX8_sign 34 = .ok (.getfield 88, 3) := by decide +kernel
theorem dX8_sign_37 : decode cX8_sign 37 = .ok (.aload_n 0, 1) := by decide +kernel
theorem dX8_sign_38 : decode cX8_sign 38 = .ok (.getfield 91, 3) := by decide +kernel
theorem dX8_sign_41 : decode cX8_sign 41 = .ok (.if_icmp .ge 12, 3) := by decide +kernel
theorem dX8_sign_44 : decode cX8_sign 44 = .ok (.iload_n 3, 1) := by decide +kernel
theorem dX8_sign_45 : decode cX8_sign 45 = .ok (.iload_n 1, 1) := by decide +kernel
theorem dX8_sign_46 : decode cX8_sign 46 = .ok (.iload_n 2, 1) := by decide +kernel
theorem dX8_sign_47 : decode cX8_sign 47 = .ok (.invokestatic 29, 3) := by decide +kernel
theorem dX8_sign_50 : decode cX8_sign 50 = .ok (.ifCond .ne 7, 3) := by decide +kernel
theorem dX8_sign_53 : decode cX8_sign 53 = .ok (.iconst 1, 1) := by decide +kernel
theorem dX8_sign_54 : decode cX8_sign 54 = .ok (.goto 4, 3) := by decide +kernel
theorem dX8_sign_57 : decode cX8_sign 57 = .ok (.iconst 0, 1) := by decide +kernel
theorem dX8_sign_58 : decode cX8_sign 58 = .ok (.putfield 94, 3) := by decide +kernel
theorem dX8_sign_61 : decode cX8_sign 61 = .ok (.aload_n 0, 1) := by decide +kernel
theorem dX8_sign_62 : decode cX8_sign 62 = .ok (.dup, 1) := by decide +kernel
theorem dX8_sign_63 : decode cX8_sign 63 = .ok (.getfield 88, 3) := by decide +kernel
theorem dX8_sign_66 : decode cX8_sign 66 = .ok (.aload_n 0, 1) := by decide +kernel
theorem dX8_sign_67 : decode cX8_sign 67 = .ok (.getfield 94, 3) := by decide +kernel
theorem dX8_sign_70 : decode cX8_sign 70 = .ok (.ifCond .eq 7, 3) := by decide +kernel
theorem dX8_sign_73 : decode cX8_sign 73 = .ok (.iconst 0, 1) := by decide +kernel
theorem dX8_sign_74 : decode cX8_sign 74 = .ok (.goto 4, 3) := by decide +kernel
theorem dX8_sign_77 : decode cX8_sign 77 = .ok (.iconst 1, 1) := by decide +kernel
theorem dX8_sign_78 : decode cX8_sign 78 = .ok (.iadd, 1) := by decide +kernel
theorem dX8_sign_79 : decode cX8_sign 79 = .ok (.putfield 88, 3) := by decide +kernel
theorem dX8_sign_82 : decode cX8_sign 82 = .ok (.iload_n 3, 1) := by decide +kernel
theorem dX8_sign_83 : decode cX8_sign 83 = .ok (.ireturn, 1) := by decide +kernel
theorem dX8_number_0 : decode cX8_number 0 = .ok (.aload_n 0, 1) := by decide +kernel
theorem dX8_number_1 : decode cX8_number 1 = .ok (.bipush 48, 2) := by decide +kernel
theorem dX8_number_3 : decode cX8_number 3 = .ok (.iload_n 1, 1) := by decide +kernel
theorem dX8_number_4 : decode cX8_number 4 = .ok (.iadd, 1) := by decide +kernel
theorem dX8_number_5 : decode cX8_number 5 = .ok (.bipush 57, 2) := by decide +kernel
theorem dX8_number_7 : decode cX8_number 7 = .ok (.invokevirtual 98, 3) := by decide +kernel
theorem dX8_number_10 : decode cX8_number 10 = .ok (.bipush 48, 2) := by decide +kernel
theorem dX8_number_12 : decode cX8_number 12 = .ok (.isub, 1) := by decide +kernel
theorem dX8_number_13 : decode cX8_number 13 = .ok (.istore_n 3, 1) := by decide +kernel
theorem dX8_number_14 : decode cX8_number 14 = .ok (.iload_n 3, 1) := by decide +kernel
theorem dX8_number_15 : decode cX8_number 15 = .ok (.ifCond .le 92, 3) := by decide +kernel
theorem dX8_number_18 : decode cX8_number 18 = .ok (.aload_n 0, 1) := by decide +kernel
theorem dX8_number_19 : decode cX8_number 19 = .ok (.getfield 94, 3) := by decide +kernel
theorem dX8_number_22 : decode cX8_number 22 = .ok (.ifCond .ne 85, 3) := by decide +kernel
theorem dX8_number_25 : decode cX8_number 25 = .ok (.aload_n 0, 1) := by decide +kernel
theorem dX8_number_26 : decode cX8_number 26 = .ok (.getfield 88, 3) := by decide +kernel
theorem dX8_number_29 : decode cX8_number 29 = .ok (.aload_n 0, 1) := by decide +kernel
theorem dX8_number_30 : decode cX8_number 30 = .ok (.getfield 91, 3) := by decide +kernel
theorem dX8_number_33 : decode cX8_number 33 = .ok (.if_icmp .ge 74, 3) := by decide +kernel
theorem dX8_number_36 : decode cX8_number 36 = .ok (.aload_n 0, 1) := by decide +kernel
theorem dX8_number_37 : decode cX8_number 37 = .ok (.getfield 26, 3) := by decide +kernel
theorem dX8_number_40 : decode cX8_number 40 = .ok (.aload_n 0, 1) := by decide +kernel
theorem dX8_number_41 : decode cX8_number 41 = .ok (.getfield 88, 3) := by decide +kernel
theorem dX8_number_44 : decode cX8_number 44 = .ok (.iaload, 1) := by decide +kernel
theorem dX8_number_45 : decode cX8_number 45 = .ok (.bipush 48, 2) := by decide +kernel
theorem dX8_number_47 : decode cX8_number 47 = .ok (.bipush 57, 2) := by decide +kernel
theorem dX8_number_49 : decode cX8_number 49 = .ok (.invokestatic 29, 3) := by decide +kernel
theorem dX8_number_52 : decode cX8_number 52 = .ok (.ifCond .eq 55, 3) := by decide +kernel
theorem dX8_number_55 : decode cX8_number 55 = .ok (.bipush 10, 2) := by decide +kernel
theorem dX8_number_57 : decode cX8_number 57 = .ok (.iload_n 3, 1) := by decide +kernel
theorem dX8_number_58 : decode cX8_number 58 = .ok (.imul, 1) := by decide +kernel
theorem dX8_number_59 : decode cX8_number 59 = .ok (.aload_n 0, 1) := by decide +kernel
theorem dX8_number_60 : decode cX8_number 60 = .ok (.getfield 26, 3) := by decide +kernel
theorem dX8_number_63 : decode cX8_number 63 = .ok (.aload_n 0, 1) := by decide +kernel
theorem dX8_number_64 : decode cX8_number 64 = .ok (.getfield 88, 3) := by decide +kernel
theorem dX8_number_67 : decode cX8_number 67 = .ok (.iaload, 1) := by decide +kernel
theorem dX8_number_68 : decode cX8_number 68 = .ok (.iadd, 1) := by decide +kernel
theorem dX8_number_69 : decode cX8_number 69 = .ok (.bipush 48, 2) := by decide +kernel
theorem dX8_number_71 : decode cX8_number 71 = .ok (.isub, 1) := by decide +kernel
theorem dX8_number_72 : decode cX8_number 72 = .ok (.iload_n 2, 1) := by decide +kernel
theorem dX8_number_73 : decode cX8_number 73 = .ok (.if_icmp .gt 34, 3) := by decide +kernel
theorem dX8_number_76 : decode cX8_number 76 = .ok (.bipush 10, 2) := by decide +kernel
theorem dX8_number_78 : decode cX8_number 78 = .ok (.iload_n 3, 1) := by decide +kernel
theorem dX8_number_79 : decode cX8_number 79 = .ok (.imul, 1) := by decide +kernel
theorem dX8_number_80 : decode cX8_number 80 = .ok (.aload_n 0, 1) := by decide +kernel
theorem dX8_number_81 : decode cX8_number 81 = .ok (.getfield 26, 3) := by decide +kernel
theorem dX8_number_84 : decode cX8_number 84 = .ok (.aload_n 0, 1) := by decide +kernel
theorem dX8_number_85 : decode cX8_number 85 = .ok (.getfield 88, 3) := by decide +kernel
theorem dX8_number_88 : decode cX8_number 88 = .ok (.iaload, 1) := by decide +kernel
theorem dX8_number_89 : decode cX8_number 89 = .ok (.iadd, 1) := by decide +kernel
theorem dX8_number_90 : decode cX8_number 90 = .ok (.bipush 48, 2) := by decide +kernel
theorem dX8_number_92 : decode cX8_number 92 = .ok (.isub, 1) := by decide +kernel
theorem dX8_number_93 : decode cX8_number 93 = .ok (.istore_n 3, 1) := by decide +kernel
theorem dX8_number_94 : decode cX8_number 94 = .ok (.aload_n 0, 1) := by decide +kernel
theorem dX8_number_95 : decode cX8_number 95 = .ok (.dup, 1) := by decide +kernel
theorem dX8_number_96 : decode cX8_number 96 = .ok (.getfield 88, 3) := by decide +kernel
theorem dX8_number_99 : decode cX8_number 99 = .ok (.iconst 1, 1) := by decide +kernel
theorem dX8_number_100 : decode cX8_number 100 = .ok (.iadd, 1) := by decide +kernel
theorem dX8_number_101 : decode cX8_number 101 = .ok (.putfield 88, 3) := by decide +kernel
theorem dX8_number_104 : decode cX8_number 104 = .ok (.goto (-90), 3) := by decide +kernel
theorem dX8_number_107 : decode cX8_number 107 = .ok (.iload_n 3, 1) := by decide +kernel
theorem dX8_number_108 : decode cX8_number 108 = .ok (.ireturn, 1) := by decide +kernel
theorem dX8_order_0 : decode cX8_order 0 = .ok (.aload_n 0, 1) := by decide +kernel
theorem dX8_order_1 : decode cX8_order 1 = .ok (.getfield 88, 3) := by decide +kernel
theorem dX8_order_4 : decode cX8_order 4 = .ok (.aload_n 0, 1) := by decide +kernel
theorem dX8_order_5 : decode cX8_order 5 = .ok (.getfield 91, 3) := by decide +kernel
theorem dX8_order_8 : decode cX8_order 8 = .ok (.if_icmp .ge 80, 3) := by decide +kernel
theorem dX8_order_11 : decode cX8_order 11 = .ok (.aload_n 0, 1) := by decide +kernel
theorem dX8_order_12 : decode cX8_order 12 = .ok (.getfield 26, 3) := by decide +kernel
theorem dX8_order_15 : decode cX8_order 15 = .ok (.aload_n 0, 1) := by decide +kernel
theorem dX8_order_16 : decode cX8_order 16 = .ok (.getfield 88, 3) := by decide +kernel
theorem dX8_order_19 : decode cX8_order 19 = .ok (.iaload, 1) := by decide +kernel
theorem dX8_order_20 : decode cX8_order 20 = .ok (.bipush 114, 2) := by decide +kernel
theorem dX8_order_22 : decode cX8_order 22 = .ok (.if_icmp .ne 66, 3) := by decide +kernel
theorem dX8_order_25 : decode cX8_order 25 = .ok (.aload_n 0, 1) := by decide +kernel
theorem dX8_order_26 : decode cX8_order 26 = .ok (.dup, 1) := by decide +kernel
theorem dX8_order_27 : decode cX8_order 27 = .ok (.getfield 88, 3) := by decide +kernel
theorem dX8_order_30 : decode cX8_order 30 = .ok (.iconst 1, 1) := by decide +kernel
theorem dX8_order_31 : decode cX8_order 31 = .ok (.iadd, 1) := by decide +kernel
theorem dX8_order_32 : decode cX8_order 32 = .ok (.putfield 88, 3) := by decide +kernel
theorem dX8_order_35 : decode cX8_order 35 = .ok (.aload_n 0, 1) := by decide +kernel
theorem dX8_order_36 : decode cX8_order 36 = .ok (.iconst 0, 1) := by decide +kernel
theorem dX8_order_37 : decode cX8_order 37 = .ok (.bipush 99, 2) := by decide +kernel
theorem dX8_order_39 : decode cX8_order 39 = .ok (.invokevirtual 101, 3) := by decide +kernel
theorem dX8_order_42 : decode cX8_order 42 = .ok (.istore_n 2, 1) := by decide +kernel
theorem dX8_order_43 : decode cX8_order 43 = .ok (.aload_n 0, 1) := by decide +kernel
theorem dX8_order_44 : decode cX8_order 44 = .ok (.bipush 104, 2) := by decide +kernel
theorem dX8_order_46 : decode cX8_order 46 = .ok (.bipush 104, 2) := by decide +kernel
theorem dX8_order_48 : decode cX8_order 48 = .ok (.invokevirtual 98, 3) := by decide +kernel
theorem dX8_order_51 : decode cX8_order 51 = .ok (.istore_n 3, 1) := by decide +kernel
theorem dX8_order_52 : decode cX8_order 52 = .ok (.aload_n 0, 1) := by decide +kernel
theorem dX8_order_53 : decode cX8_order 53 = .ok (.iconst 1, 1) := by decide +kernel
theorem dX8_order_54 : decode cX8_order 54 = .ok (.bipush 24, 2) := by decide +kernel
theorem dX8_order_56 : decode cX8_order 56 = .ok (.invokevirtual 101, 3) := by decide +kernel
theorem dX8_order_59 : decode cX8_order 59 = .ok (.istore 4, 2) := by decide +kernel
theorem dX8_order_61 : decode cX8_order 61 = .ok (.iload_n 1, 1) := by decide +kernel
theorem dX8_order_62 : decode cX8_order 62 = .ok (.ifCond .eq 13, 3) := by decide +kernel
theorem dX8_order_65 : decode cX8_order 65 = .ok (.aload_n 0, 1) := by decide +kernel
theorem dX8_order_66 : decode cX8_order 66 = .ok (.iload_n 2, 1) := by decide +kernel
theorem dX8_order_67 : decode cX8_order 67 = .ok (.iload 4, 2) := by decide +kernel
theorem dX8_order_69 : decode cX8_order 69 = .ok (.invokevirtual 79, 3) := by decide +kernel
theorem dX8_order_72 : decode cX8_order 72 = .ok (.ifCond .ge 5, 3) := by decide +kernel
theorem dX8_order_75 : decode cX8_order 75 = .ok (.iconst 0, 1) := by decide +kernel
theorem dX8_order_76 : decode cX8_order 76 = .ok (.ireturn, 1) := by decide +kernel
theorem dX8_order_77 : decode cX8_order 77 = .ok (.aload_n 0, 1) := by decide +kernel
theorem dX8_order_78 : decode cX8_order 78 = .ok (.iload_n 2, 1) := by decide +kernel
theorem dX8_order_79 : decode cX8_order 79 = .ok (.iload 4, 2) := by decide +kernel
theorem dX8_order_81 : decode cX8_order 81 = .ok (.invokevirtual 82, 3) := by decide +kernel
theorem dX8_order_84 : decode cX8_order 84 = .ok (.istore 5, 2) := by decide +kernel
theorem dX8_order_86 : decode cX8_order 86 = .ok (.iconst 1, 1) := by decide +kernel
theorem dX8_order_87 : decode cX8_order 87 = .ok (.ireturn, 1) := by decide +kernel
theorem dX8_order_88 : decode cX8_order 88 = .ok (.aload_n 0, 1) := by decide +kernel
theorem dX8_order_89 : decode cX8_order 89 = .ok (.bipush 115, 2) := by decide +kernel
theorem dX8_order_91 : decode cX8_order 91 = .ok (.bipush 115, 2) := by decide +kernel
theorem dX8_order_93 : decode cX8_order 93 = .ok (.invokevirtual 98, 3) := by decide +kernel
theorem dX8_order_96 : decode cX8_order 96 = .ok (.istore_n 2, 1) := by decide +kernel
theorem dX8_order_97 : decode cX8_order 97 = .ok (.aload_n 0, 1) := by decide +kernel
theorem dX8_order_98 : decode cX8_order 98 = .ok (.bipush 48, 2) := by decide +kernel
theorem dX8_order_100 : decode cX8_order 100 = .ok (.bipush 53, 2) := by decide +kernel
theorem dX8_order_102 : decode cX8_order 102 = .ok (.invokevirtual 98, 3) := by decide +kernel
theorem dX8_order_105 : decode cX8_order 105 = .ok (.bipush 48, 2) := by decide +kernel
theorem dX8_order_107 : decode cX8_order 107 = .ok (.isub, 1) := by decide +kernel
theorem dX8_order_108 : decode cX8_order 108 = .ok (.istore_n 3, 1) := by decide +kernel
theorem dX8_order_109 : decode cX8_order 109 = .ok (.iload_n 1, 1) := by decide +kernel
theorem dX8_order_110 : decode cX8_order 110 = .ok (.ifCond .eq 15, 3) := by decide +kernel
theorem dX8_order_113 : decode cX8_order 113 = .ok (.aload_n 0, 1) := by decide +kernel
theorem dX8_order_114 : decode cX8_order 114 = .ok (.iload_n 3, 1) := by decide +kernel
theorem dX8_order_115 : decode cX8_order 115 = .ok (.invokevirtual 85, 3) := by decide +kernel
theorem dX8_order_118 : decode cX8_order 118 = .ok (.ifCond .lt 7, 3) := by decide +kernel
theorem dX8_order_121 : decode cX8_order 121 = .ok (.iconst 1, 1) := by decide +kernel
theorem dX8_order_122 : decode cX8_order 122 = .ok (.goto 4, 3) := by decide +kernel
theorem dX8_order_125 : decode cX8_order 125 = .ok (.iconst 0, 1) := by decide +kernel
theorem dX8_order_126 : decode cX8_order 126 = .ok (.ireturn, 1) := by decide +kernel
theorem dX8_go_0 : decode cX8_go 0 = .ok (.aload_n 0, 1) := by decide +kernel
theorem dX8_go_1 : decode cX8_go 1 = .ok (.iconst 0, 1) := by decide +kernel
theorem dX8_go_2 : decode cX8_go 2 = .ok (.putfield 88, 3) := by decide +kernel
theorem dX8_go_5 : decode cX8_go 5 = .ok (.aload_n 0, 1) := by decide +kernel
theorem dX8_go_6 : decode cX8_go 6 = .ok (.iconst 0, 1) := by decide +kernel
theorem dX8_go_7 : decode cX8_go 7 = .ok (.putfield 94, 3) := by decide +kernel
theorem dX8_go_10 : decode cX8_go 10 = .ok (.iconst 0, 1) := by decide +kernel
theorem dX8_go_11 : decode cX8_go 11 = .ok (.istore_n 2, 1) := by decide +kernel
theorem dX8_go_12 : decode cX8_go 12 = .ok (.iconst 1, 1) := by decide +kernel
theorem dX8_go_13 : decode cX8_go 13 = .ok (.istore_n 3, 1) := by decide +kernel
theorem dX8_go_14 : decode cX8_go 14 = .ok (.iload_n 3, 1) := by decide +kernel
theorem dX8_go_15 : decode cX8_go 15 = .ok (.ifCond .eq 65, 3) := by decide +kernel
theorem dX8_go_18 : decode cX8_go 18 = .ok (.iload_n 2, 1) := by decide +kernel
theorem dX8_go_19 : decode cX8_go 19 = .ok (.aload_n 0, 1) := by decide +kernel
theorem dX8_go_20 : decode cX8_go 20 = .ok (.iload_n 1, 1) := by decide +kernel
theorem dX8_go_21 : decode cX8_go 21 = .ok (.invokevirtual 104, 3) := by decide +kernel
theorem dX8_go_24 : decode cX8_go 24 = .ok (.iadd, 1) := by decide +kernel
theorem dX8_go_25 : decode cX8_go 25 = .ok (.istore_n 2, 1) := by decide +kernel
theorem dX8_go_26 : decode cX8_go 26 = .ok (.aload_n 0, 1) := by decide +kernel
theorem dX8_go_27 : decode cX8_go 27 = .ok (.getfield 94, 3) := by decide +kernel
theorem dX8_go_30 : decode cX8_go 30 = .ok (.ifCond .ne 18, 3) := by decide +kernel
theorem dX8_go_33 : decode cX8_go 33 = .ok (.aload_n 0, 1) := by decide +kernel
theorem dX8_go_34 : decode cX8_go 34 = .ok (.getfield 88, 3) := by decide +kernel
theorem dX8_go_37 : decode cX8_go 37 = .ok (.aload_n 0, 1) := by decide +kernel
theorem dX8_go_38 : decode cX8_go 38 = .ok (.getfield 91, 3) := by decide +kernel
theorem dX8_go_41 : decode cX8_go 41 = .ok (.if_icmp .ge 7, 3) := by decide +kernel
theorem dX8_go_44 : decode cX8_go 44 = .ok (.iconst 1, 1) := by decide +kernel
theorem dX8_go_45 : decode cX8_go 45 = .ok (.goto 4, 3) := by decide +kernel
theorem dX8_go_48 : decode cX8_go 48 = .ok (.iconst 0, 1) := by decide +kernel
theorem dX8_go_49 : decode cX8_go 49 = .ok (.istore_n 3, 1) := by decide +kernel
theorem dX8_go_50 : decode cX8_go 50 = .ok (.iload_n 3, 1) := by decide +kernel
theorem dX8_go_51 : decode cX8_go 51 = .ok (.ifCond .eq (-37), 3) := by decide +kernel
theorem dX8_go_54 : decode cX8_go 54 = .ok (.aload_n 0, 1) := by decide +kernel
theorem dX8_go_55 : decode cX8_go 55 = .ok (.bipush 59, 2) := by decide +kernel
theorem dX8_go_57 : decode cX8_go 57 = .ok (.bipush 59, 2) := by decide +kernel
theorem dX8_go_59 : decode cX8_go 59 = .ok (.invokevirtual 98, 3) := by decide +kernel
theorem dX8_go_62 : decode cX8_go 62 = .ok (.istore 4, 2) := by decide +kernel
theorem dX8_go_64 : decode cX8_go 64 = .ok (.aload_n 0, 1) := by decide +kernel
theorem dX8_go_65 : decode cX8_go 65 = .ok (.getfield 94, 3) := by decide +kernel
theorem dX8_go_68 : decode cX8_go 68 = .ok (.ifCond .ne 7, 3) := by decide +kernel
theorem dX8_go_71 : decode cX8_go 71 = .ok (.iconst 1, 1) := by decide +kernel
theorem dX8_go_72 : decode cX8_go 72 = .ok (.goto 4, 3) := by decide +kernel
theorem dX8_go_75 : decode cX8_go 75 = .ok (.iconst 0, 1) := by decide +kernel
theorem dX8_go_76 : decode cX8_go 76 = .ok (.istore_n 3, 1) := by decide +kernel
theorem dX8_go_77 : decode cX8_go 77 = .ok (.goto (-63), 3) := by decide +kernel
theorem dX8_go_80 : decode cX8_go 80 = .ok (.iload_n 2, 1) := by decide +kernel
theorem dX8_go_81 : decode cX8_go 81 = .ok (.ireturn, 1) := by decide +kernel
theorem dX8_run_0 : decode cX8_run 0 = .ok (.aload_n 0, 1) := by decide +kernel
theorem dX8_run_1 : decode cX8_run 1 = .ok (.iconst 0, 1) := by decide +kernel
theorem dX8_run_2 : decode cX8_run 2 = .ok (.invokevirtual 108, 3) := by decide +kernel
theorem dX8_run_5 : decode cX8_run 5 = .ok (.istore_n 1, 1) := by decide +kernel
theorem dX8_run_6 : decode cX8_run 6 = .ok (.aload_n 0, 1) := by decide +kernel
theorem dX8_run_7 : decode cX8_run 7 = .ok (.getfield 94, 3) := by decide +kernel
theorem dX8_run_10 : decode cX8_run 10 = .ok (.ifCond .eq 6, 3) := by decide +kernel
theorem dX8_run_13 : decode cX8_run 13 = .ok (.ldc 111, 2) := by decide +kernel
theorem dX8_run_15 : decode cX8_run 15 = .ok (.ireturn, 1) := by decide +kernel
theorem dX8_run_16 : decode cX8_run 16 = .ok (.aload_n 0, 1) := by decide +kernel
theorem dX8_run_17 : decode cX8_run 17 = .ok (.invokevirtual 71, 3) := by decide +kernel
theorem dX8_run_20 : decode cX8_run 20 = .ok (.aload_n 0, 1) := by decide +kernel
theorem dX8_run_21 : decode cX8_run 21 = .ok (.iconst 1, 1) := by decide +kernel
theorem dX8_run_22 : decode cX8_run 22 = .ok (.invokevirtual 108, 3) := by decide +kernel
theorem dX8_run_25 : decode cX8_run 25 = .ok (.istore_n 2, 1) := by decide +kernel
theorem dX8_run_26 : decode cX8_run 26 = .ok (.aload_n 0, 1) := by decide +kernel
theorem dX8_run_27 : decode cX8_run 27 = .ok (.iconst 0, 1) := by decide +kernel
theorem dX8_run_28 : decode cX8_run 28 = .ok (.putfield 91, 3) := by decide +kernel
theorem dX8_run_31 : decode cX8_run 31 = .ok (.iload_n 2, 1) := by decide +kernel
theorem dX8_run_32 : decode cX8_run 32 = .ok (.ireturn, 1) := by decide +kernel
theorem dX8_gaugeOf_0 : decode cX8_gaugeOf 0 = .ok (.iload_n 1, 1) := by decide +kernel
theorem dX8_gaugeOf_1 : decode cX8_gaugeOf 1 = .ok (.invokestatic 74, 3) := by decide +kernel
theorem dX8_gaugeOf_4 : decode cX8_gaugeOf 4 = .ok (.ifCond .ne 6, 3) := by decide +kernel
theorem dX8_gaugeOf_7 : decode cX8_gaugeOf 7 = .ok (.ldc 78, 2) := by decide +kernel
theorem dX8_gaugeOf_9 : decode cX8_gaugeOf 9 = .ok (.ireturn, 1) := by decide +kernel
theorem dX8_gaugeOf_10 : decode cX8_gaugeOf 10 = .ok (.iload_n 2, 1) := by decide +kernel
theorem dX8_gaugeOf_11 : decode cX8_gaugeOf 11 = .ok (.iconst 0, 1) := by decide +kernel
theorem dX8_gaugeOf_12 : decode cX8_gaugeOf 12 = .ok (.bipush 8, 2) := by decide +kernel
theorem dX8_gaugeOf_14 : decode cX8_gaugeOf 14 = .ok (.invokestatic 29, 3) := by decide +kernel
theorem dX8_gaugeOf_17 : decode cX8_gaugeOf 17 = .ok (.ifCond .ne 6, 3) := by decide +kernel
theorem dX8_gaugeOf_20 : decode cX8_gaugeOf 20 = .ok (.ldc 70, 2) := by decide +kernel
theorem dX8_gaugeOf_22 : decode cX8_gaugeOf 22 = .ok (.ireturn, 1) := by decide +kernel
theorem dX8_gaugeOf_23 : decode cX8_gaugeOf 23 = .ok (.iload_n 2, 1) := by decide +kernel
theorem dX8_gaugeOf_24 : decode cX8_gaugeOf 24 = .ok (.bipush 6, 2) := by decide +kernel
theorem dX8_gaugeOf_26 : decode cX8_gaugeOf 26 = .ok (.if_icmp .ge 12, 3) := by decide +kernel
theorem dX8_gaugeOf_29 : decode cX8_gaugeOf 29 = .ok (.aload_n 0, 1) := by decide +kernel
theorem dX8_gaugeOf_30 : decode cX8_gaugeOf 30 = .ok (.iload_n 1, 1) := by decide +kernel
theorem dX8_gaugeOf_31 : decode cX8_gaugeOf 31 = .ok (.iload_n 2, 1) := by decide +kernel
theorem dX8_gaugeOf_32 : decode cX8_gaugeOf 32 = .ok (.invokevirtual 37, 3) := by decide +kernel
theorem dX8_gaugeOf_35 : decode cX8_gaugeOf 35 = .ok (.goto 25, 3) := by decide +kernel
theorem dX8_gaugeOf_38 : decode cX8_gaugeOf 38 = .ok (.iload_n 2, 1) := by decide +kernel
theorem dX8_gaugeOf_39 : decode cX8_gaugeOf 39 = .ok (.bipush 6, 2) := by decide +kernel
theorem dX8_gaugeOf_41 : decode cX8_gaugeOf 41 = .ok (.if_icmp .ne 11, 3) := by decide +kernel
theorem dX8_gaugeOf_44 : decode cX8_gaugeOf 44 = .ok (.aload_n 0, 1) := by decide +kernel
theorem dX8_gaugeOf_45 : decode cX8_gaugeOf 45 = .ok (.iload_n 1, 1) := by decide +kernel
theorem dX8_gaugeOf_46 : decode cX8_gaugeOf 46 = .ok (.invokevirtual 61, 3) := by decide +kernel
theorem dX8_gaugeOf_49 : decode cX8_gaugeOf 49 = .ok (.goto 11, 3) := by decide +kernel
theorem dX8_gaugeOf_52 : decode cX8_gaugeOf 52 = .ok (.aload_n 0, 1) := by decide +kernel
theorem dX8_gaugeOf_53 : decode cX8_gaugeOf 53 = .ok (.iload_n 1, 1) := by decide +kernel
theorem dX8_gaugeOf_54 : decode cX8_gaugeOf 54 = .ok (.iload_n 2, 1) := by decide +kernel
theorem dX8_gaugeOf_55 : decode cX8_gaugeOf 55 = .ok (.iconst 1, 1) := by decide +kernel
theorem dX8_gaugeOf_56 : decode cX8_gaugeOf 56 = .ok (.isub, 1) := by decide +kernel
theorem dX8_gaugeOf_57 : decode cX8_gaugeOf 57 = .ok (.invokevirtual 37, 3) := by decide +kernel
theorem dX8_gaugeOf_60 : decode cX8_gaugeOf 60 = .ok (.ireturn, 1) := by decide +kernel
theorem dX8_ledger_0 : decode cX8_ledger 0 = .ok (.iload_n 1, 1) := by decide +kernel
theorem dX8_ledger_1 : decode cX8_ledger 1 = .ok (.invokestatic 74, 3) := by decide +kernel
theorem dX8_ledger_4 : decode cX8_ledger 4 = .ok (.ifCond .ne 6, 3) := by decide +kernel
theorem dX8_ledger_7 : decode cX8_ledger 7 = .ok (.ldc 78, 2) := by decide +kernel
theorem dX8_ledger_9 : decode cX8_ledger 9 = .ok (.ireturn, 1) := by decide +kernel
theorem dX8_ledger_10 : decode cX8_ledger 10 = .ok (.iload_n 2, 1) := by decide +kernel
theorem dX8_ledger_11 : decode cX8_ledger 11 = .ok (.tableswitch 73 0 7 #[45, 45, 45, 55, 61, 61, 61, 61], 45) := by decide +kernel
theorem dX8_ledger_56 : decode cX8_ledger 56 = .ok (.aload_n 0, 1) := by decide +kernel
theorem dX8_ledger_57 : decode cX8_ledger 57 = .ok (.iload_n 1, 1) := by decide +kernel
theorem dX8_ledger_58 : decode cX8_ledger 58 = .ok (.bipush 8, 2) := by decide +kernel
theorem dX8_ledger_60 : decode cX8_ledger 60 = .ok (.iload_n 2, 1) := by decide +kernel
theorem dX8_ledger_61 : decode cX8_ledger 61 = .ok (.iadd, 1) := by decide +kernel
theorem dX8_ledger_62 : decode cX8_ledger 62 = .ok (.invokevirtual 37, 3) := by decide +kernel
theorem dX8_ledger_65 : decode cX8_ledger 65 = .ok (.ireturn, 1) := by decide +kernel
theorem dX8_ledger_66 : decode cX8_ledger 66 = .ok (.aload_n 0, 1) := by decide +kernel
theorem dX8_ledger_67 : decode cX8_ledger 67 = .ok (.iload_n 1, 1) := by decide +kernel
theorem dX8_ledger_68 : decode cX8_ledger 68 = .ok (.invokevirtual 112, 3) := by decide +kernel
theorem dX8_ledger_71 : decode cX8_ledger 71 = .ok (.ireturn, 1) := by decide +kernel
theorem dX8_ledger_72 : decode cX8_ledger 72 = .ok (.aload_n 0, 1) := by decide +kernel
theorem dX8_ledger_73 : decode cX8_ledger 73 = .ok (.iload_n 1, 1) := by decide +kernel
theorem dX8_ledger_74 : decode cX8_ledger 74 = .ok (.bipush 13, 2) := by decide +kernel
theorem dX8_ledger_76 : decode cX8_ledger 76 = .ok (.iload_n 2, 1) := by decide +kernel
theorem dX8_ledger_77 : decode cX8_ledger 77 = .ok (.iadd, 1) := by decide +kernel
theorem dX8_ledger_78 : decode cX8_ledger 78 = .ok (.iconst 4, 1) := by decide +kernel
theorem dX8_ledger_79 : decode cX8_ledger 79 = .ok (.isub, 1) := by decide +kernel
theorem dX8_ledger_80 : decode cX8_ledger 80 = .ok (.invokevirtual 37, 3) := by decide +kernel
theorem dX8_ledger_83 : decode cX8_ledger 83 = .ok (.ireturn, 1) := by decide +kernel
theorem dX8_ledger_84 : decode cX8_ledger 84 = .ok (.ldc 70, 2) := by decide +kernel
theorem dX8_ledger_86 : decode cX8_ledger 86 = .ok (.ireturn, 1) := by decide +kernel
theorem dX8_runner_0 : decode cX8_runner 0 = .ok (.iload_n 1, 1) := by decide +kernel
theorem dX8_runner_1 : decode cX8_runner 1 = .ok (.iconst 0, 1) := by decide +kernel
theorem dX8_runner_2 : decode cX8_runner 2 = .ok (.aload_n 0, 1) := by decide +kernel
theorem dX8_runner_3 : decode cX8_runner 3 = .ok (.getfield 7, 3) := by decide +kernel
theorem dX8_runner_6 : decode cX8_runner 6 = .ok (.bipush 105, 2) := by decide +kernel
theorem dX8_runner_8 : decode cX8_runner 8 = .ok (.iaload, 1) := by decide +kernel
theorem dX8_runner_9 : decode cX8_runner 9 = .ok (.iconst 1, 1) := by decide +kernel
theorem dX8_runner_10 : decode cX8_runner 10 = .ok (.isub, 1) := by decide +kernel
theorem dX8_runner_11 : decode cX8_runner 11 = .ok (.invokestatic 29, 3) := by decide +kernel
theorem dX8_runner_14 : decode cX8_runner 14 = .ok (.ifCond .ne 6, 3) := by decide +kernel
theorem dX8_runner_17 : decode cX8_runner 17 = .ok (.ldc 78, 2) := by decide +kernel
theorem dX8_runner_19 : decode cX8_runner 19 = .ok (.ireturn, 1) := by decide +kernel
theorem dX8_runner_20 : decode cX8_runner 20 = .ok (.iload_n 2, 1) := by decide +kernel
theorem dX8_runner_21 : decode cX8_runner 21 = .ok (.iconst 0, 1) := by decide +kernel
theorem dX8_runner_22 : decode cX8_runner 22 = .ok (.iconst 2, 1) := by decide +kernel
theorem dX8_runner_23 : decode cX8_runner 23 = .ok (.invokestatic 29, 3) := by decide +kernel
theorem dX8_runner_26 : decode cX8_runner 26 = .ok (.ifCond .eq 12, 3) := by decide +kernel
theorem dX8_runner_29 : decode cX8_runner 29 = .ok (.aload_n 0, 1) := by decide +kernel
theorem dX8_runner_30 : decode cX8_runner 30 = .ok (.iload_n 1, 1) := by decide +kernel
theorem dX8_runner_31 : decode cX8_runner 31 = .ok (.iload_n 2, 1) := by decide +kernel
theorem dX8_runner_32 : decode cX8_runner 32 = .ok (.invokevirtual 49, 3) := by decide +kernel
theorem dX8_runner_35 : decode cX8_runner 35 = .ok (.goto 27, 3) := by decide +kernel
theorem dX8_runner_38 : decode cX8_runner 38 = .ok (.iload_n 2, 1) := by decide +kernel
theorem dX8_runner_39 : decode cX8_runner 39 = .ok (.iconst 3, 1) := by decide +kernel
theorem dX8_runner_40 : decode cX8_runner 40 = .ok (.if_icmp .ne 20, 3) := by decide +kernel
theorem dX8_runner_43 : decode cX8_runner 43 = .ok (.aload_n 0, 1) := by decide +kernel
theorem dX8_runner_44 : decode cX8_runner 44 = .ok (.iload_n 1, 1) := by decide +kernel
theorem dX8_runner_45 : decode cX8_runner 45 = .ok (.iconst 3, 1) := by decide +kernel
theorem dX8_runner_46 : decode cX8_runner 46 = .ok (.invokevirtual 49, 3) := by decide +kernel
theorem dX8_runner_49 : decode cX8_runner 49 = .ok (.aload_n 0, 1) := by decide +kernel
theorem dX8_runner_50 : decode cX8_runner 50 = .ok (.getfield 7, 3) := by decide +kernel
theorem dX8_runner_53 : decode cX8_runner 53 = .ok (.bipush 104, 2) := by decide +kernel
theorem dX8_runner_55 : decode cX8_runner 55 = .ok (.iaload, 1) := by decide +kernel
theorem dX8_runner_56 : decode cX8_runner 56 = .ok (.isub, 1) := by decide +kernel
theorem dX8_runner_57 : decode cX8_runner 57 = .ok (.goto 5, 3) := by decide +kernel
theorem dX8_runner_60 : decode cX8_runner 60 = .ok (.ldc 70, 2) := by decide +kernel
theorem dX8_runner_62 : decode cX8_runner 62 = .ok (.ireturn, 1) := by decide +kernel
theorem dX8_all_0 : decode cX8_all 0 = .ok (.iconst 0, 1) := by decide +kernel
theorem dX8_all_1 : decode cX8_all 1 = .ok (.istore_n 2, 1) := by decide +kernel
theorem dX8_all_2 : decode cX8_all 2 = .ok (.iconst 0, 1) := by decide +kernel
theorem dX8_all_3 : decode cX8_all 3 = .ok (.istore_n 3, 1) := by decide +kernel
theorem dX8_all_4 : decode cX8_all 4 = .ok (.iload_n 3, 1) := by decide +kernel
theorem dX8_all_5 : decode cX8_all 5 = .ok (.bipush 6, 2) := by decide +kernel
theorem dX8_all_7 : decode cX8_all 7 = .ok (.if_icmp .ge 18, 3) := by decide +kernel
theorem dX8_all_10 : decode cX8_all 10 = .ok (.iload_n 2, 1) := by decide +kernel
theorem dX8_all_11 : decode cX8_all 11 = .ok (.aload_n 0, 1) := by decide +kernel
theorem dX8_all_12 : decode cX8_all 12 = .ok (.iload_n 3, 1) := by decide +kernel
theorem dX8_all_13 : decode cX8_all 13 = .ok (.iload_n 1, 1) := by decide +kernel
theorem dX8_all_14 : decode cX8_all 14 = .ok (.invokevirtual 37, 3) := by decide +kernel
theorem dX8_all_17 : decode cX8_all 17 = .ok (.iadd, 1) := by decide +kernel
theorem dX8_all_18 : decode cX8_all 18 = .ok (.istore_n 2, 1) := by decide +kernel
theorem dX8_all_19 : decode cX8_all 19 = .ok (.iinc 3 1, 3) := by decide +kernel
theorem dX8_all_22 : decode cX8_all 22 = .ok (.goto (-18), 3) := by decide +kernel
theorem dX8_all_25 : decode cX8_all 25 = .ok (.iload_n 2, 1) := by decide +kernel
theorem dX8_all_26 : decode cX8_all 26 = .ok (.ireturn, 1) := by decide +kernel
theorem dX8_gaps_0 : decode cX8_gaps 0 = .ok (.iconst 0, 1) := by decide +kernel
theorem dX8_gaps_1 : decode cX8_gaps 1 = .ok (.istore_n 1, 1) := by decide +kernel
theorem dX8_gaps_2 : decode cX8_gaps 2 = .ok (.iconst 0, 1) := by decide +kernel
theorem dX8_gaps_3 : decode cX8_gaps 3 = .ok (.istore_n 2, 1) := by decide +kernel
theorem dX8_gaps_4 : decode cX8_gaps 4 = .ok (.iload_n 2, 1) := by decide +kernel
theorem dX8_gaps_5 : decode cX8_gaps 5 = .ok (.bipush 6, 2) := by decide +kernel
theorem dX8_gaps_7 : decode cX8_gaps 7 = .ok (.if_icmp .ge 25, 3) := by decide +kernel
theorem dX8_gaps_10 : decode cX8_gaps 10 = .ok (.iload_n 1, 1) := by decide +kernel
theorem dX8_gaps_11 : decode cX8_gaps 11 = .ok (.aload_n 0, 1) := by decide +kernel
theorem dX8_gaps_12 : decode cX8_gaps 12 = .ok (.iload_n 2, 1) := by decide +kernel
theorem dX8_gaps_13 : decode cX8_gaps 13 = .ok (.invokevirtual 112, 3) := by decide +kernel
theorem dX8_gaps_16 : decode cX8_gaps 16 = .ok (.ifCond .ne 7, 3) := by decide +kernel
theorem dX8_gaps_19 : decode cX8_gaps 19 = .ok (.iconst 0, 1) := by decide +kernel
theorem dX8_gaps_20 : decode cX8_gaps 20 = .ok (.goto 4, 3) := by decide +kernel
theorem dX8_gaps_23 : decode cX8_gaps 23 = .ok (.iconst 1, 1) := by decide +kernel
theorem dX8_gaps_24 : decode cX8_gaps 24 = .ok (.iadd, 1) := by decide +kernel
theorem dX8_gaps_25 : decode cX8_gaps 25 = .ok (.istore_n 1, 1) := by decide +kernel
theorem dX8_gaps_26 : decode cX8_gaps 26 = .ok (.iinc 2 1, 3) := by decide +kernel
theorem dX8_gaps_29 : decode cX8_gaps 29 = .ok (.goto (-25), 3) := by decide +kernel
theorem dX8_gaps_32 : decode cX8_gaps 32 = .ok (.iload_n 1, 1) := by decide +kernel
theorem dX8_gaps_33 : decode cX8_gaps 33 = .ok (.ireturn, 1) := by decide +kernel
theorem dX8_count_0 : decode cX8_count 0 = .ok (.iload_n 1, 1) := by decide +kernel
theorem dX8_count_1 : decode cX8_count 1 = .ok (.tableswitch 117 0 10 #[59, 59, 59, 59, 69, 76, 89, 95, 102, 107, 112], 59) := by decide +kernel
theorem dX8_count_60 : decode cX8_count 60 = .ok (.aload_n 0, 1) := by decide +kernel
theorem dX8_count_61 : decode cX8_count 61 = .ok (.getfield 7, 3) := by decide +kernel
theorem dX8_count_64 : decode cX8_count 64 = .ok (.bipush 102, 2) := by decide +kernel
theorem dX8_count_66 : decode cX8_count 66 = .ok (.iload_n 1, 1) := by decide +kernel
theorem dX8_count_67 : decode cX8_count 67 = .ok (.iadd, 1) := by decide +kernel
theorem dX8_count_68 : decode cX8_count 68 = .ok (.iaload, 1) := by decide +kernel
theorem dX8_count_69 : decode cX8_count 69 = .ok (.ireturn, 1) := by decide +kernel
theorem dX8_count_70 : decode cX8_count 70 = .ok (.aload_n 0, 1) := by decide +kernel
theorem dX8_count_71 : decode cX8_count 71 = .ok (.bipush 6, 2) := by decide +kernel
theorem dX8_count_73 : decode cX8_count 73 = .ok (.invokevirtual 115, 3) := by decide +kernel
theorem dX8_count_76 : decode cX8_count 76 = .ok (.ireturn, 1) := by decide +kernel
theorem dX8_count_77 : decode cX8_count 77 = .ok (.aload_n 0, 1) := by decide +kernel
theorem dX8_count_78 : decode cX8_count 78 = .ok (.bipush 7, 2) := by decide +kernel
theorem dX8_count_80 : decode cX8_count 80 = .ok (.invokevirtual 115, 3) := by decide +kernel
theorem dX8_count_83 : decode cX8_count 83 = .ok (.aload_n 0, 1) := by decide +kernel
theorem dX8_count_84 : decode cX8_count 84 = .ok (.iconst 4, 1) := by decide +kernel
theorem dX8_count_85 : decode cX8_count 85 = .ok (.invokevirtual 115, 3) := by decide +kernel
theorem dX8_count_88 : decode cX8_count 88 = .ok (.iadd, 1) := by decide +kernel
theorem dX8_count_89 : decode cX8_count 89 = .ok (.ireturn, 1) := by decide +kernel
theorem dX8_count_90 : decode cX8_count 90 = .ok (.aload_n 0, 1) := by decide +kernel
theorem dX8_count_91 : decode cX8_count 91 = .ok (.iconst 5, 1) := by decide +kernel
theorem dX8_count_92 : decode cX8_count 92 = .ok (.invokevirtual 115, 3) := by decide +kernel
theorem dX8_count_95 : decode cX8_count 95 = .ok (.ireturn, 1) := by decide +kernel
theorem dX8_count_96 : decode cX8_count 96 = .ok (.aload_n 0, 1) := by decide +kernel
theorem dX8_count_97 : decode cX8_count 97 = .ok (.bipush 8, 2) := by decide +kernel
theorem dX8_count_99 : decode cX8_count 99 = .ok (.invokevirtual 115, 3) := by decide +kernel
theorem dX8_count_102 : decode cX8_count 102 = .ok (.ireturn, 1) := by decide +kernel
theorem dX8_count_103 : decode cX8_count 103 = .ok (.aload_n 0, 1) := by decide +kernel
theorem dX8_count_104 : decode cX8_count 104 = .ok (.invokevirtual 118, 3) := by decide +kernel
theorem dX8_count_107 : decode cX8_count 107 = .ok (.ireturn, 1) := by decide +kernel
theorem dX8_count_108 : decode cX8_count 108 = .ok (.aload_n 0, 1) := by decide +kernel
theorem dX8_count_109 : decode cX8_count 109 = .ok (.getfield 91, 3) := by decide +kernel
theorem dX8_count_112 : decode cX8_count 112 = .ok (.ireturn, 1) := by decide +kernel
theorem dX8_count_113 : decode cX8_count 113 = .ok (.aload_n 0, 1) := by decide +kernel
theorem dX8_count_114 : decode cX8_count 114 = .ok (.getfield 33, 3) := by decide +kernel
theorem dX8_count_117 : decode cX8_count 117 = .ok (.ireturn, 1) := by decide +kernel
theorem dX8_count_118 : decode cX8_count 118 = .ok (.ldc 70, 2) := by decide +kernel
theorem dX8_count_120 : decode cX8_count 120 = .ok (.ireturn, 1) := by decide +kernel
theorem dX8_untold_0 : decode cX8_untold 0 = .ok (.aload_n 0, 1) := by decide +kernel
theorem dX8_untold_1 : decode cX8_untold 1 = .ok (.iload_n 1, 1) := by decide +kernel
theorem dX8_untold_2 : decode cX8_untold 2 = .ok (.iconst 5, 1) := by decide +kernel
theorem dX8_untold_3 : decode cX8_untold 3 = .ok (.invokevirtual 37, 3) := by decide +kernel
theorem dX8_untold_6 : decode cX8_untold 6 = .ok (.aload_n 0, 1) := by decide +kernel
theorem dX8_untold_7 : decode cX8_untold 7 = .ok (.iload_n 1, 1) := by decide +kernel
theorem dX8_untold_8 : decode cX8_untold 8 = .ok (.bipush 11, 2) := by decide +kernel
theorem dX8_untold_10 : decode cX8_untold 10 = .ok (.invokevirtual 37, 3) := by decide +kernel
theorem dX8_untold_13 : decode cX8_untold 13 = .ok (.isub, 1) := by decide +kernel
theorem dX8_untold_14 : decode cX8_untold 14 = .ok (.ireturn, 1) := by decide +kernel
theorem dX8_untilRound_0 : decode cX8_untilRound 0 = .ok (.iload_n 1, 1) := by decide +kernel
theorem dX8_untilRound_1 : decode cX8_untilRound 1 = .ok (.invokestatic 74, 3) := by decide +kernel
theorem dX8_untilRound_4 : decode cX8_untilRound 4 = .ok (.ifCond .ne 6, 3) := by decide +kernel
theorem dX8_untilRound_7 : decode cX8_untilRound 7 = .ok (.ldc 78, 2) := by decide +kernel
theorem dX8_untilRound_9 : decode cX8_untilRound 9 = .ok (.ireturn, 1) := by decide +kernel
theorem dX8_untilRound_10 : decode cX8_untilRound 10 = .ok (.iload_n 2, 1) := by decide +kernel
theorem dX8_untilRound_11 : decode cX8_untilRound 11 = .ok (.iconst 0, 1) := by decide +kernel
theorem dX8_untilRound_12 : decode cX8_untilRound 12 = .ok (.bipush 99, 2) := by decide +kernel
theorem dX8_untilRound_14 : decode cX8_untilRound 14 = .ok (.invokestatic 29, 3) := by decide +kernel
theorem dX8_untilRound_17 : decode cX8_untilRound 17 = .ok (.ifCond .ne 6, 3) := by decide +kernel
theorem dX8_untilRound_20 : decode cX8_untilRound 20 = .ok (.ldc 70, 2) := by decide +kernel
theorem dX8_untilRound_22 : decode cX8_untilRound 22 = .ok (.ireturn, 1) := by decide +kernel
theorem dX8_untilRound_23 : decode cX8_untilRound 23 = .ok (.iload_n 2, 1) := by decide +kernel
theorem dX8_untilRound_24 : decode cX8_untilRound 24 = .ok (.aload_n 0, 1) := by decide +kernel
theorem dX8_untilRound_25 : decode cX8_untilRound 25 = .ok (.iload_n 1, 1) := by decide +kernel
theorem dX8_untilRound_26 : decode cX8_untilRound 26 = .ok (.iconst 0, 1) := by decide +kernel
theorem dX8_untilRound_27 : decode cX8_untilRound 27 = .ok (.invokevirtual 37, 3) := by decide +kernel
theorem dX8_untilRound_30 : decode cX8_untilRound 30 = .ok (.imul, 1) := by decide +kernel
theorem dX8_untilRound_31 : decode cX8_untilRound 31 = .ok (.aload_n 0, 1) := by decide +kernel
theorem dX8_untilRound_32 : decode cX8_untilRound 32 = .ok (.iload_n 1, 1) := by decide +kernel
theorem dX8_untilRound_33 : decode cX8_untilRound 33 = .ok (.iconst 2, 1) := by decide +kernel
theorem dX8_untilRound_34 : decode cX8_untilRound 34 = .ok (.invokevirtual 37, 3) := by decide +kernel
theorem dX8_untilRound_37 : decode cX8_untilRound 37 = .ok (.imul, 1) := by decide +kernel
theorem dX8_untilRound_38 : decode cX8_untilRound 38 = .ok (.bipush 100, 2) := by decide +kernel
theorem dX8_untilRound_40 : decode cX8_untilRound 40 = .ok (.idiv, 1) := by decide +kernel
theorem dX8_untilRound_41 : decode cX8_untilRound 41 = .ok (.istore_n 3, 1) := by decide +kernel
theorem dX8_untilRound_42 : decode cX8_untilRound 42 = .ok (.aload_n 0, 1) := by decide +kernel
theorem dX8_untilRound_43 : decode cX8_untilRound 43 = .ok (.iload_n 1, 1) := by decide +kernel
theorem dX8_untilRound_44 : decode cX8_untilRound 44 = .ok (.invokevirtual 122, 3) := by decide +kernel
theorem dX8_untilRound_47 : decode cX8_untilRound 47 = .ok (.istore 4, 2) := by decide +kernel
theorem dX8_untilRound_49 : decode cX8_untilRound 49 = .ok (.aload_n 0, 1) := by decide +kernel
theorem dX8_untilRound_50 : decode cX8_untilRound 50 = .ok (.iload_n 1, 1) := by decide +kernel
theorem dX8_untilRound_51 : decode cX8_untilRound 51 = .ok (.iconst 4, 1) := by decide +kernel
theorem dX8_untilRound_52 : decode cX8_untilRound 52 = .ok (.invokevirtual 37, 3) := by decide +kernel
theorem dX8_untilRound_55 : decode cX8_untilRound 55 = .ok (.istore 5, 2) := by decide +kernel
theorem dX8_untilRound_57 : decode cX8_untilRound 57 = .ok (.iconst 0, 1) := by decide +kernel
theorem dX8_untilRound_58 : decode cX8_untilRound 58 = .ok (.istore 6, 2) := by decide +kernel
theorem dX8_untilRound_60 : decode cX8_untilRound 60 = .ok (.iload 4, 2) := by decide +kernel
theorem dX8_untilRound_62 : decode cX8_untilRound 62 = .ok (.aload_n 0, 1) := by decide +kernel
theorem dX8_untilRound_63 : decode cX8_untilRound 63 = .ok (.getfield 7, 3) := by decide +kernel
theorem dX8_untilRound_66 : decode cX8_untilRound 66 = .ok (.bipush 102, 2) := by decide +kernel
theorem dX8_untilRound_68 : decode cX8_untilRound 68 = .ok (.iaload, 1) := by decide +kernel
theorem dX8_untilRound_69 : decode cX8_untilRound 69 = .ok (.if_icmp .ge 48, 3) := by decide +kernel
theorem dX8_untilRound_72 : decode cX8_untilRound 72 = .ok (.iload 6, 2) := by decide +kernel
theorem dX8_untilRound_74 : decode cX8_untilRound 74 = .ok (.sipush 500, 3) := by decide +kernel
theorem dX8_untilRound_77 : decode cX8_untilRound 77 = .ok (.if_icmp .ge 40, 3) := by decide +kernel
theorem dX8_untilRound_80 : decode cX8_untilRound 80 = .ok (.iload 5, 2) := by decide +kernel
theorem dX8_untilRound_82 : decode cX8_untilRound 82 = .ok (.iload_n 3, 1) := by decide +kernel
theorem dX8_untilRound_83 : decode cX8_untilRound 83 = .ok (.iadd, 1) := by decide +kernel
theorem dX8_untilRound_84 : decode cX8_untilRound 84 = .ok (.istore 5, 2) := by decide +kernel
theorem dX8_untilRound_86 : decode cX8_untilRound 86 = .ok (.iload 4, 2) := by decide +kernel
theorem dX8_untilRound_88 : decode cX8_untilRound 88 = .ok (.iload 5, 2) := by decide +kernel
theorem dX8_untilRound_90 : decode cX8_untilRound 90 = .ok (.aload_n 0, 1) := by decide +kernel
theorem dX8_untilRound_91 : decode cX8_untilRound 91 = .ok (.iload_n 1, 1) := by decide +kernel
theorem dX8_untilRound_92 : decode cX8_untilRound 92 = .ok (.iconst 1, 1) := by decide +kernel
theorem dX8_untilRound_93 : decode cX8_untilRound 93 = .ok (.invokevirtual 37, 3) := by decide +kernel
theorem dX8_untilRound_96 : decode cX8_untilRound 96 = .ok (.idiv, 1) := by decide +kernel
theorem dX8_untilRound_97 : decode cX8_untilRound 97 = .ok (.iadd, 1) := by decide +kernel
theorem dX8_untilRound_98 : decode cX8_untilRound 98 = .ok (.istore 4, 2) := by decide +kernel
theorem dX8_untilRound_100 : decode cX8_untilRound 100 = .ok (.iload 5, 2) := by decide +kernel
theorem dX8_untilRound_102 : decode cX8_untilRound 102 = .ok (.aload_n 0, 1) := by decide +kernel
theorem dX8_untilRound_103 : decode cX8_untilRound 103 = .ok (.iload_n 1, 1) := by decide +kernel
theorem dX8_untilRound_104 : decode cX8_untilRound 104 = .ok (.iconst 1, 1) := by decide +kernel
theorem dX8_untilRound_105 : decode cX8_untilRound 105 = .ok (.invokevirtual 37, 3) := by decide +kernel
theorem dX8_untilRound_108 : decode cX8_untilRound 108 = .ok (.irem, 1) := by decide +kernel
theorem dX8_untilRound_109 : decode cX8_untilRound 109 = .ok (.istore 5, 2) := by decide +kernel
theorem dX8_untilRound_111 : decode cX8_untilRound 111 = .ok (.iinc 6 1, 3) := by decide +kernel
theorem dX8_untilRound_114 : decode cX8_untilRound 114 = .ok (.goto (-54), 3) := by decide +kernel
theorem dX8_untilRound_117 : decode cX8_untilRound 117 = .ok (.iload 4, 2) := by decide +kernel
theorem dX8_untilRound_119 : decode cX8_untilRound 119 = .ok (.aload_n 0, 1) := by decide +kernel
theorem dX8_untilRound_120 : decode cX8_untilRound 120 = .ok (.getfield 7, 3) := by decide +kernel
theorem dX8_untilRound_123 : decode cX8_untilRound 123 = .ok (.bipush 102, 2) := by decide +kernel
theorem dX8_untilRound_125 : decode cX8_untilRound 125 = .ok (.iaload, 1) := by decide +kernel
theorem dX8_untilRound_126 : decode cX8_untilRound 126 = .ok (.if_icmp .ge 8, 3) := by decide +kernel
theorem dX8_untilRound_129 : decode cX8_untilRound 129 = .ok (.ldc 125, 2) := by decide +kernel
theorem dX8_untilRound_131 : decode cX8_untilRound 131 = .ok (.goto 5, 3) := by decide +kernel
theorem dX8_untilRound_134 : decode cX8_untilRound 134 = .ok (.iload 6, 2) := by decide +kernel
theorem dX8_untilRound_136 : decode cX8_untilRound 136 = .ok (.ireturn, 1) := by decide +kernel
theorem dX8_ifSent_0 : decode cX8_ifSent 0 = .ok (.iload_n 1, 1) := by decide +kernel
theorem dX8_ifSent_1 : decode cX8_ifSent 1 = .ok (.invokestatic 74, 3) := by decide +kernel
theorem dX8_ifSent_4 : decode cX8_ifSent 4 = .ok (.ifCond .ne 6, 3) := by decide +kernel
theorem dX8_ifSent_7 : decode cX8_ifSent 7 = .ok (.ldc 78, 2) := by decide +kernel
theorem dX8_ifSent_9 : decode cX8_ifSent 9 = .ok (.ireturn, 1) := by decide +kernel
theorem dX8_ifSent_10 : decode cX8_ifSent 10 = .ok (.aload_n 0, 1) := by decide +kernel
theorem dX8_ifSent_11 : decode cX8_ifSent 11 = .ok (.invokevirtual 126, 3) := by decide +kernel
theorem dX8_ifSent_14 : decode cX8_ifSent 14 = .ok (.aload_n 0, 1) := by decide +kernel
theorem dX8_ifSent_15 : decode cX8_ifSent 15 = .ok (.iload_n 1, 1) := by decide +kernel
theorem dX8_ifSent_16 : decode cX8_ifSent 16 = .ok (.aload_n 0, 1) := by decide +kernel
theorem dX8_ifSent_17 : decode cX8_ifSent 17 = .ok (.iload_n 1, 1) := by decide +kernel
theorem dX8_ifSent_18 : decode cX8_ifSent 18 = .ok (.invokevirtual 61, 3) := by decide +kernel
theorem dX8_ifSent_21 : decode cX8_ifSent 21 = .ok (.aload_n 0, 1) := by decide +kernel
theorem dX8_ifSent_22 : decode cX8_ifSent 22 = .ok (.getfield 7, 3) := by decide +kernel
theorem dX8_ifSent_25 : decode cX8_ifSent 25 = .ok (.bipush 104, 2) := by decide +kernel
theorem dX8_ifSent_27 : decode cX8_ifSent 27 = .ok (.iaload, 1) := by decide +kernel
theorem dX8_ifSent_28 : decode cX8_ifSent 28 = .ok (.aload_n 0, 1) := by decide +kernel
theorem dX8_ifSent_29 : decode cX8_ifSent 29 = .ok (.iload_n 1, 1) := by decide +kernel
theorem dX8_ifSent_30 : decode cX8_ifSent 30 = .ok (.iconst 5, 1) := by decide +kernel
theorem dX8_ifSent_31 : decode cX8_ifSent 31 = .ok (.invokevirtual 37, 3) := by decide +kernel
theorem dX8_ifSent_34 : decode cX8_ifSent 34 = .ok (.aload_n 0, 1) := by decide +kernel
theorem dX8_ifSent_35 : decode cX8_ifSent 35 = .ok (.iconst 0, 1) := by decide +kernel
theorem dX8_ifSent_36 : decode cX8_ifSent 36 = .ok (.bipush 6, 2) := by decide +kernel
theorem dX8_ifSent_38 : decode cX8_ifSent 38 = .ok (.invokevirtual 37, 3) := by decide +kernel
theorem dX8_ifSent_41 : decode cX8_ifSent 41 = .ok (.invokevirtual 52, 3) := by decide +kernel
theorem dX8_ifSent_44 : decode cX8_ifSent 44 = .ok (.aload_n 0, 1) := by decide +kernel
theorem dX8_ifSent_45 : decode cX8_ifSent 45 = .ok (.iload_n 1, 1) := by decide +kernel
theorem dX8_ifSent_46 : decode cX8_ifSent 46 = .ok (.invokevirtual 112, 3) := by decide +kernel
theorem dX8_ifSent_49 : decode cX8_ifSent 49 = .ok (.istore_n 2, 1) := by decide +kernel
theorem dX8_ifSent_50 : decode cX8_ifSent 50 = .ok (.aload_n 0, 1) := by decide +kernel
theorem dX8_ifSent_51 : decode cX8_ifSent 51 = .ok (.invokevirtual 129, 3) := by decide +kernel
theorem dX8_ifSent_54 : decode cX8_ifSent 54 = .ok (.iload_n 2, 1) := by decide +kernel
theorem dX8_ifSent_55 : decode cX8_ifSent 55 = .ok (.ireturn, 1) := by decide +kernel
theorem dX8_ifAllCome_0 : decode cX8_ifAllCome 0 = .ok (.iload_n 1, 1) := by decide +kernel
theorem dX8_ifAllCome_1 : decode cX8_ifAllCome 1 = .ok (.invokestatic 74, 3) := by decide +kernel
theorem dX8_ifAllCome_4 : decode cX8_ifAllCome 4 = .ok (.ifCond .ne 6, 3) := by decide +kernel
theorem dX8_ifAllCome_7 : decode cX8_ifAllCome 7 = .ok (.ldc 78, 2) := by decide +kernel
theorem dX8_ifAllCome_9 : decode cX8_ifAllCome 9 = .ok (.ireturn, 1) := by decide +kernel
theorem dX8_ifAllCome_10 : decode cX8_ifAllCome 10 = .ok (.aload_n 0, 1) := by decide +kernel
theorem dX8_ifAllCome_11 : decode cX8_ifAllCome 11 = .ok (.invokevirtual 126, 3) := by decide +kernel
theorem dX8_ifAllCome_14 : decode cX8_ifAllCome 14 = .ok (.aload_n 0, 1) := by decide +kernel
theorem dX8_ifAllCome_15 : decode cX8_ifAllCome 15 = .ok (.getfield 7, 3) := by decide +kernel
theorem dX8_ifAllCome_18 : decode cX8_ifAllCome 18 = .ok (.bipush 105, 2) := by decide +kernel
theorem dX8_ifAllCome_20 : decode cX8_ifAllCome 20 = .ok (.iaload, 1) := by decide +kernel
theorem dX8_ifAllCome_21 : decode cX8_ifAllCome 21 = .ok (.ifCond .le 12, 3) := by decide +kernel
theorem dX8_ifAllCome_24 : decode cX8_ifAllCome 24 = .ok (.aload_n 0, 1) := by decide +kernel
theorem dX8_ifAllCome_25 : decode cX8_ifAllCome 25 = .ok (.iconst 0, 1) := by decide +kernel
theorem dX8_ifAllCome_26 : decode cX8_ifAllCome 26 = .ok (.invokevirtual 67, 3) := by decide +kernel
theorem dX8_ifAllCome_29 : decode cX8_ifAllCome 29 = .ok (.istore_n 2, 1) := by decide +kernel
theorem dX8_ifAllCome_30 : decode cX8_ifAllCome 30 = .ok (.goto (-16), 3) := by decide +kernel
theorem dX8_ifAllCome_33 : decode cX8_ifAllCome 33 = .ok (.aload_n 0, 1) := by decide +kernel
theorem dX8_ifAllCome_34 : decode cX8_ifAllCome 34 = .ok (.iload_n 1, 1) := by decide +kernel
theorem dX8_ifAllCome_35 : decode cX8_ifAllCome 35 = .ok (.invokevirtual 112, 3) := by decide +kernel
theorem dX8_ifAllCome_38 : decode cX8_ifAllCome 38 = .ok (.istore_n 2, 1) := by decide +kernel
theorem dX8_ifAllCome_39 : decode cX8_ifAllCome 39 = .ok (.aload_n 0, 1) := by decide +kernel
theorem dX8_ifAllCome_40 : decode cX8_ifAllCome 40 = .ok (.invokevirtual 129, 3) := by decide +kernel
theorem dX8_ifAllCome_43 : decode cX8_ifAllCome 43 = .ok (.iload_n 2, 1) := by decide +kernel
theorem dX8_ifAllCome_44 : decode cX8_ifAllCome 44 = .ok (.ireturn, 1) := by decide +kernel
theorem dX8_mostUntold_0 : decode cX8_mostUntold 0 = .ok (.ldc 125, 2) := by decide +kernel
theorem dX8_mostUntold_2 : decode cX8_mostUntold 2 = .ok (.istore_n 1, 1) := by decide +kernel
theorem dX8_mostUntold_3 : decode cX8_mostUntold 3 = .ok (.iconst 0, 1) := by decide +kernel
theorem dX8_mostUntold_4 : decode cX8_mostUntold 4 = .ok (.istore_n 2, 1) := by decide +kernel
theorem dX8_mostUntold_5 : decode cX8_mostUntold 5 = .ok (.iload_n 2, 1) := by decide +kernel
theorem dX8_mostUntold_6 : decode cX8_mostUntold 6 = .ok (.bipush 6, 2) := by decide +kernel
theorem dX8_mostUntold_8 : decode cX8_mostUntold 8 = .ok (.if_icmp .ge 38, 3) := by decide +kernel
theorem dX8_mostUntold_11 : decode cX8_mostUntold 11 = .ok (.aload_n 0, 1) := by decide +kernel
theorem dX8_mostUntold_12 : decode cX8_mostUntold 12 = .ok (.iload_n 2, 1) := by decide +kernel
theorem dX8_mostUntold_13 : decode cX8_mostUntold 13 = .ok (.invokevirtual 122, 3) := by decide +kernel
theorem dX8_mostUntold_16 : decode cX8_mostUntold 16 = .ok (.iload_n 1, 1) := by decide +kernel
theorem dX8_mostUntold_17 : decode cX8_mostUntold 17 = .ok (.ldc 125, 2) := by decide +kernel
theorem dX8_mostUntold_19 : decode cX8_mostUntold 19 = .ok (.if_icmp .ne 7, 3) := by decide +kernel
theorem dX8_mostUntold_22 : decode cX8_mostUntold 22 = .ok (.iconst 0, 1) := by decide +kernel
theorem dX8_mostUntold_23 : decode cX8_mostUntold 23 = .ok (.goto 8, 3) := by decide +kernel
theorem dX8_mostUntold_26 : decode cX8_mostUntold 26 = .ok (.aload_n 0, 1) := by decide +kernel
theorem dX8_mostUntold_27 : decode cX8_mostUntold 27 = .ok (.iload_n 1, 1) := by decide +kernel
theorem dX8_mostUntold_28 : decode cX8_mostUntold 28 = .ok (.invokevirtual 122, 3) := by decide +kernel
theorem dX8_mostUntold_31 : decode cX8_mostUntold 31 = .ok (.if_icmp .le 7, 3) := by decide +kernel
theorem dX8_mostUntold_34 : decode cX8_mostUntold 34 = .ok (.iload_n 2, 1) := by decide +kernel
theorem dX8_mostUntold_35 : decode cX8_mostUntold 35 = .ok (.goto 4, 3) := by decide +kernel
theorem dX8_mostUntold_38 : decode cX8_mostUntold 38 = .ok (.iload_n 1, 1) := by decide +kernel
theorem dX8_mostUntold_39 : decode cX8_mostUntold 39 = .ok (.istore_n 1, 1) := by decide +kernel
theorem dX8_mostUntold_40 : decode cX8_mostUntold 40 = .ok (.iinc 2 1, 3) := by decide +kernel
theorem dX8_mostUntold_43 : decode cX8_mostUntold 43 = .ok (.goto (-38), 3) := by decide +kernel
theorem dX8_mostUntold_46 : decode cX8_mostUntold 46 = .ok (.iload_n 1, 1) := by decide +kernel
theorem dX8_mostUntold_47 : decode cX8_mostUntold 47 = .ok (.ireturn, 1) := by decide +kernel
theorem dX8_code_0 : decode cX8_code 0 = .ok (.lload_n 0, 1) := by decide +kernel
theorem dX8_code_1 : decode cX8_code 1 = .ok (.bipush 8, 2) := by decide +kernel
theorem dX8_code_3 : decode cX8_code 3 = .ok (.iload_n 2, 1) := by decide +kernel
theorem dX8_code_4 : decode cX8_code 4 = .ok (.imul, 1) := by decide +kernel
theorem dX8_code_5 : decode cX8_code 5 = .ok (.lushr, 1) := by decide +kernel
theorem dX8_code_6 : decode cX8_code 6 = .ok (.ldc2_w 132, 3) := by decide +kernel
theorem dX8_code_9 : decode cX8_code 9 = .ok (.land, 1) := by decide +kernel
theorem dX8_code_10 : decode cX8_code 10 = .ok (.l2i, 1) := by decide +kernel
theorem dX8_code_11 : decode cX8_code 11 = .ok (.ireturn, 1) := by decide +kernel
theorem dX8_put_0 : decode cX8_put 0 = .ok (.iconst 0, 1) := by decide +kernel
theorem dX8_put_1 : decode cX8_put 1 = .ok (.istore_n 3, 1) := by decide +kernel
theorem dX8_put_2 : decode cX8_put 2 = .ok (.iload_n 3, 1) := by decide +kernel
theorem dX8_put_3 : decode cX8_put 3 = .ok (.bipush 8, 2) := by decide +kernel
theorem dX8_put_5 : decode cX8_put 5 = .ok (.if_icmp .ge 35, 3) := by decide +kernel
theorem dX8_put_8 : decode cX8_put 8 = .ok (.lload_n 1, 1) := by decide +kernel
theorem dX8_put_9 : decode cX8_put 9 = .ok (.iload_n 3, 1) := by decide +kernel
theorem dX8_put_10 : decode cX8_put 10 = .ok (.invokestatic 134, 3) := by decide +kernel
theorem dX8_put_13 : decode cX8_put 13 = .ok (.ifCond .eq 27, 3) := by decide +kernel
theorem dX8_put_16 : decode cX8_put 16 = .ok (.lload_n 1, 1) := by decide +kernel
theorem dX8_put_17 : decode cX8_put 17 = .ok (.iload_n 3, 1) := by decide +kernel
theorem dX8_put_18 : decode cX8_put 18 = .ok (.invokestatic 134, 3) := by decide +kernel
theorem dX8_put_21 : decode cX8_put 21 = .ok (.bipush 33, 2) := by decide +kernel
theorem dX8_put_23 : decode cX8_put 23 = .ok (.bipush 126, 2) := by decide +kernel
theorem dX8_put_25 : decode cX8_put 25 = .ok (.invokestatic 29, 3) := by decide +kernel
theorem dX8_put_28 : decode cX8_put 28 = .ok (.ifCond .ne 6, 3) := by decide +kernel
theorem dX8_put_31 : decode cX8_put 31 = .ok (.ldc 70, 2) := by decide +kernel
theorem dX8_put_33 : decode cX8_put 33 = .ok (.ireturn, 1) := by decide +kernel
theorem dX8_put_34 : decode cX8_put 34 = .ok (.iinc 3 1, 3) := by decide +kernel
theorem dX8_put_37 : decode cX8_put 37 = .ok (.goto (-35), 3) := by decide +kernel
theorem dX8_put_40 : decode cX8_put 40 = .ok (.iload_n 3, 1) := by decide +kernel
theorem dX8_put_41 : decode cX8_put 41 = .ok (.ifCond .eq 20, 3) := by decide +kernel
theorem dX8_put_44 : decode cX8_put 44 = .ok (.iload_n 3, 1) := by decide +kernel
theorem dX8_put_45 : decode cX8_put 45 = .ok (.bipush 8, 2) := by decide +kernel
theorem dX8_put_47 : decode cX8_put 47 = .ok (.if_icmp .ge 17, 3) := by decide +kernel
theorem dX8_put_50 : decode cX8_put 50 = .ok (.lload_n 1, 1) := by decide +kernel
theorem dX8_put_51 : decode cX8_put 51 = .ok (.bipush 8, 2) := by decide +kernel
theorem dX8_put_53 : decode cX8_put 53 = .ok (.iload_n 3, 1) := by decide +kernel
theorem dX8_put_54 : decode cX8_put 54 = .ok (.imul, 1) := by decide +kernel
theorem dX8_put_55 : decode cX8_put 55 = .ok (.lushr, 1) := by decide +kernel
theorem dX8_put_56 : decode cX8_put 56 = .ok (.lconst 0, 1) := by decide +kernel
theorem dX8_put_57 : decode cX8_put 57 = .ok (.lcmp, 1) := by decide +kernel
theorem dX8_put_58 : decode cX8_put 58 = .ok (.ifCond .eq 6, 3) := by decide +kernel
theorem dX8_put_61 : decode cX8_put 61 = .ok (.ldc 70, 2) := by decide +kernel
theorem dX8_put_63 : decode cX8_put 63 = .ok (.ireturn, 1) := by decide +kernel
theorem dX8_put_64 : decode cX8_put 64 = .ok (.aload_n 0, 1) := by decide +kernel
theorem dX8_put_65 : decode cX8_put 65 = .ok (.getfield 91, 3) := by decide +kernel
theorem dX8_put_68 : decode cX8_put 68 = .ok (.iload_n 3, 1) := by decide +kernel
theorem dX8_put_69 : decode cX8_put 69 = .ok (.iadd, 1) := by decide +kernel
theorem dX8_put_70 : decode cX8_put 70 = .ok (.bipush 60, 2) := by decide +kernel
theorem dX8_put_72 : decode cX8_put 72 = .ok (.if_icmp .le 6, 3) := by decide +kernel
theorem dX8_put_75 : decode cX8_put 75 = .ok (.ldc 60, 2) := by decide +kernel
theorem dX8_put_77 : decode cX8_put 77 = .ok (.ireturn, 1) := by decide +kernel
theorem dX8_put_78 : decode cX8_put 78 = .ok (.iload_n 3, 1) := by decide +kernel
theorem dX8_put_79 : decode cX8_put 79 = .ok (.iconst 1, 1) := by decide +kernel
theorem dX8_put_80 : decode cX8_put 80 = .ok (.isub, 1) := by decide +kernel
theorem dX8_put_81 : decode cX8_put 81 = .ok (.istore 4, 2) := by decide +kernel
theorem dX8_put_83 : decode cX8_put 83 = .ok (.iload 4, 2) := by decide +kernel
theorem dX8_put_85 : decode cX8_put 85 = .ok (.ifCond .lt 34, 3) := by decide +kernel
theorem dX8_put_88 : decode cX8_put 88 = .ok (.aload_n 0, 1) := by decide +kernel
theorem dX8_put_89 : decode cX8_put 89 = .ok (.getfield 26, 3) := by decide +kernel
theorem dX8_put_92 : decode cX8_put 92 = .ok (.aload_n 0, 1) := by decide +kernel
theorem dX8_put_93 : decode cX8_put 93 = .ok (.getfield 91, 3) := by decide +kernel
theorem dX8_put_96 : decode cX8_put 96 = .ok (.lload_n 1, 1) := by decide +kernel
theorem dX8_put_97 : decode cX8_put 97 = .ok (.iload 4, 2) := by decide +kernel
theorem dX8_put_99 : decode cX8_put 99 = .ok (.invokestatic 134, 3) := by decide +kernel
theorem dX8_put_102 : decode cX8_put 102 = .ok (.iastore, 1) := by decide +kernel
theorem dX8_put_103 : decode cX8_put 103 = .ok (.aload_n 0, 1) := by decide +kernel
theorem dX8_put_104 : decode cX8_put 104 = .ok (.dup, 1) := by decide +kernel
theorem dX8_put_105 : decode cX8_put 105 = .ok (.getfield 91, 3) := by decide +kernel
theorem dX8_put_108 : decode cX8_put 108 = .ok (.iconst 1, 1) := by decide +kernel
theorem dX8_put_109 : decode cX8_put 109 = .ok (.iadd, 1) := by decide +kernel
theorem dX8_put_110 : decode cX8_put 110 = .ok (.putfield 91, 3) := by decide +kernel
theorem dX8_put_113 : decode cX8_put 113 = .ok (.iinc 4 (-1), 3) := by decide +kernel
theorem dX8_put_116 : decode cX8_put 116 = .ok (.goto (-33), 3) := by decide +kernel
theorem dX8_put_119 : decode cX8_put 119 = .ok (.aload_n 0, 1) := by decide +kernel
theorem dX8_put_120 : decode cX8_put 120 = .ok (.getfield 91, 3) := by decide +kernel
theorem dX8_put_123 : decode cX8_put 123 = .ok (.ireturn, 1) := by decide +kernel
theorem dX8_wipe_0 : decode cX8_wipe 0 = .ok (.aload_n 0, 1) := by decide +kernel
theorem dX8_wipe_1 : decode cX8_wipe 1 = .ok (.getfield 91, 3) := by decide +kernel
theorem dX8_wipe_4 : decode cX8_wipe 4 = .ok (.istore_n 1, 1) := by decide +kernel
theorem dX8_wipe_5 : decode cX8_wipe 5 = .ok (.aload_n 0, 1) := by decide +kernel
theorem dX8_wipe_6 : decode cX8_wipe 6 = .ok (.iconst 0, 1) := by decide +kernel
theorem dX8_wipe_7 : decode cX8_wipe 7 = .ok (.putfield 91, 3) := by decide +kernel
theorem dX8_wipe_10 : decode cX8_wipe 10 = .ok (.iload_n 1, 1) := by decide +kernel
theorem dX8_wipe_11 : decode cX8_wipe 11 = .ok (.ireturn, 1) := by decide +kernel
theorem dX8_fault_0 : decode cX8_fault 0 = .ok (.aload_n 0, 1) := by decide +kernel
theorem dX8_fault_1 : decode cX8_fault 1 = .ok (.iconst 0, 1) := by decide +kernel
theorem dX8_fault_2 : decode cX8_fault 2 = .ok (.invokevirtual 108, 3) := by decide +kernel
theorem dX8_fault_5 : decode cX8_fault 5 = .ok (.istore_n 1, 1) := by decide +kernel
theorem dX8_fault_6 : decode cX8_fault 6 = .ok (.aload_n 0, 1) := by decide +kernel
theorem dX8_fault_7 : decode cX8_fault 7 = .ok (.getfield 94, 3) := by decide +kernel
theorem dX8_fault_10 : decode cX8_fault 10 = .ok (.ifCond .eq 10, 3) := by decide +kernel
theorem dX8_fault_13 : decode cX8_fault 13 = .ok (.aload_n 0, 1) := by decide +kernel
theorem dX8_fault_14 : decode cX8_fault 14 = .ok (.getfield 88, 3) := by decide +kernel
theorem dX8_fault_17 : decode cX8_fault 17 = .ok (.goto 5, 3) := by decide +kernel
theorem dX8_fault_20 : decode cX8_fault 20 = .ok (.ldc 125, 2) := by decide +kernel
theorem dX8_fault_22 : decode cX8_fault 22 = .ok (.ireturn, 1) := by decide +kernel
theorem dX8_undo_0 : decode cX8_undo 0 = .ok (.aload_n 0, 1) := by decide +kernel
theorem dX8_undo_1 : decode cX8_undo 1 = .ok (.getfield 33, 3) := by decide +kernel
theorem dX8_undo_4 : decode cX8_undo 4 = .ok (.ifCond .ne 6, 3) := by decide +kernel
theorem dX8_undo_7 : decode cX8_undo 7 = .ok (.ldc 138, 2) := by decide +kernel
theorem dX8_undo_9 : decode cX8_undo 9 = .ok (.ireturn, 1) := by decide +kernel
theorem dX8_undo_10 : decode cX8_undo 10 = .ok (.aload_n 0, 1) := by decide +kernel
theorem dX8_undo_11 : decode cX8_undo 11 = .ok (.dup, 1) := by decide +kernel
theorem dX8_undo_12 : decode cX8_undo 12 = .ok (.getfield 33, 3) := by decide +kernel
theorem dX8_undo_15 : decode cX8_undo 15 = .ok (.iconst 1, 1) := by decide +kernel
theorem dX8_undo_16 : decode cX8_undo 16 = .ok (.isub, 1) := by decide +kernel
theorem dX8_undo_17 : decode cX8_undo 17 = .ok (.putfield 33, 3) := by decide +kernel
theorem dX8_undo_20 : decode cX8_undo 20 = .ok (.iconst 0, 1) := by decide +kernel
theorem dX8_undo_21 : decode cX8_undo 21 = .ok (.istore_n 1, 1) := by decide +kernel
theorem dX8_undo_22 : decode cX8_undo 22 = .ok (.iload_n 1, 1) := by decide +kernel
theorem dX8_undo_23 : decode cX8_undo 23 = .ok (.sipush 226, 3) := by decide +kernel
theorem dX8_undo_26 : decode cX8_undo 26 = .ok (.if_icmp .ge 30, 3) := by decide +kernel
theorem dX8_undo_29 : decode cX8_undo 29 = .ok (.aload_n 0, 1) := by decide +kernel
theorem dX8_undo_30 : decode cX8_undo 30 = .ok (.getfield 7, 3) := by decide +kernel
theorem dX8_undo_33 : decode cX8_undo 33 = .ok (.iload_n 1, 1) := by decide +kernel
theorem dX8_undo_34 : decode cX8_undo 34 = .ok (.aload_n 0, 1) := by decide +kernel
theorem dX8_undo_35 : decode cX8_undo 35 = .ok (.getfield 16, 3) := by decide +kernel
theorem dX8_undo_38 : decode cX8_undo 38 = .ok (.sipush 226, 3) := by decide +kernel
theorem dX8_undo_41 : decode cX8_undo 41 = .ok (.aload_n 0, 1) := by decide +kernel
theorem dX8_undo_42 : decode cX8_undo 42 = .ok (.getfield 33, 3) := by decide +kernel
theorem dX8_undo_45 : decode cX8_undo 45 = .ok (.imul, 1) := by decide +kernel
theorem dX8_undo_46 : decode cX8_undo 46 = .ok (.iload_n 1, 1) := by decide +kernel
theorem dX8_undo_47 : decode cX8_undo 47 = .ok (.iadd, 1) := by decide +kernel
theorem dX8_undo_48 : decode cX8_undo 48 = .ok (.iaload, 1) := by decide +kernel
theorem dX8_undo_49 : decode cX8_undo 49 = .ok (.iastore, 1) := by decide +kernel
theorem dX8_undo_50 : decode cX8_undo 50 = .ok (.iinc 1 1, 3) := by decide +kernel
theorem dX8_undo_53 : decode cX8_undo 53 = .ok (.goto (-31), 3) := by decide +kernel
theorem dX8_undo_56 : decode cX8_undo 56 = .ok (.aload_n 0, 1) := by decide +kernel
theorem dX8_undo_57 : decode cX8_undo 57 = .ok (.getfield 33, 3) := by decide +kernel
theorem dX8_undo_60 : decode cX8_undo 60 = .ok (.ireturn, 1) := by decide +kernel
theorem dX8_save_0 : decode cX8_save 0 = .ok (.iload_n 1, 1) := by decide +kernel
theorem dX8_save_1 : decode cX8_save 1 = .ok (.iconst 0, 1) := by decide +kernel
theorem dX8_save_2 : decode cX8_save 2 = .ok (.iconst 1, 1) := by decide +kernel
theorem dX8_save_3 : decode cX8_save 3 = .ok (.invokestatic 29, 3) := by decide +kernel
theorem dX8_save_6 : decode cX8_save 6 = .ok (.ifCond .ne 6, 3) := by decide +kernel
theorem dX8_save_9 : decode cX8_save 9 = .ok (.ldc 70, 2) := by decide +kernel
theorem dX8_save_11 : decode cX8_save 11 = .ok (.ireturn, 1) := by decide +kernel
theorem dX8_save_12 : decode cX8_save 12 = .ok (.iconst 0, 1) := by decide +kernel
theorem dX8_save_13 : decode cX8_save 13 = .ok (.istore_n 2, 1) := by decide +kernel
theorem dX8_save_14 : decode cX8_save 14 = .ok (.iload_n 2, 1) := by decide +kernel
theorem dX8_save_15 : decode cX8_save 15 = .ok (.sipush 226, 3) := by decide +kernel
theorem dX8_save_18 : decode cX8_save 18 = .ok (.if_icmp .ge 27, 3) := by decide +kernel
theorem dX8_save_21 : decode cX8_save 21 = .ok (.aload_n 0, 1) := by decide +kernel
theorem dX8_save_22 : decode cX8_save 22 = .ok (.getfield 19, 3) := by decide +kernel
theorem dX8_save_25 : decode cX8_save 25 = .ok (.sipush 226, 3) := by decide +kernel
theorem dX8_save_28 : decode cX8_save 28 = .ok (.iload_n 1, 1) := by decide +kernel
theorem dX8_save_29 : decode cX8_save 29 = .ok (.imul, 1) := by decide +kernel
theorem dX8_save_30 : decode cX8_save 30 = .ok (.iload_n 2, 1) := by decide +kernel
theorem dX8_save_31 : decode cX8_save 31 = .ok (.iadd, 1) := by decide +kernel
theorem dX8_save_32 : decode cX8_save 32 = .ok (.aload_n 0, 1) := by decide +kernel
theorem dX8_save_33 : decode cX8_save 33 = .ok (.getfield 7, 3) := by decide +kernel
theorem dX8_save_36 : decode cX8_save 36 = .ok (.iload_n 2, 1) := by decide +kernel
theorem dX8_save_37 : decode cX8_save 37 = .ok (.iaload, 1) := by decide +kernel
theorem dX8_save_38 : decode cX8_save 38 = .ok (.iastore, 1) := by decide +kernel
theorem dX8_save_39 : decode cX8_save 39 = .ok (.iinc 2 1, 3) := by decide +kernel
theorem dX8_save_42 : decode cX8_save 42 = .ok (.goto (-28), 3) := by decide +kernel
theorem dX8_save_45 : decode cX8_save 45 = .ok (.aload_n 0, 1) := by decide +kernel
theorem dX8_save_46 : decode cX8_save 46 = .ok (.getfield 22, 3) := by decide +kernel
theorem dX8_save_49 : decode cX8_save 49 = .ok (.iload_n 1, 1) := by decide +kernel
theorem dX8_save_50 : decode cX8_save 50 = .ok (.iconst 1, 1) := by decide +kernel
theorem dX8_save_51 : decode cX8_save 51 = .ok (.bastore, 1) := by decide +kernel
theorem dX8_save_52 : decode cX8_save 52 = .ok (.aload_n 0, 1) := by decide +kernel
theorem dX8_save_53 : decode cX8_save 53 = .ok (.getfield 7, 3) := by decide +kernel
theorem dX8_save_56 : decode cX8_save 56 = .ok (.bipush 104, 2) := by decide +kernel
theorem dX8_save_58 : decode cX8_save 58 = .ok (.iaload, 1) := by decide +kernel
theorem dX8_save_59 : decode cX8_save 59 = .ok (.ireturn, 1) := by decide +kernel
theorem dX8_restore_0 : decode cX8_restore 0 = .ok (.iload_n 1, 1) := by decide +kernel
theorem dX8_restore_1 : decode cX8_restore 1 = .ok (.iconst 0, 1) := by decide +kernel
theorem dX8_restore_2 : decode cX8_restore 2 = .ok (.iconst 1, 1) := by decide +kernel
theorem dX8_restore_3 : decode cX8_restore 3 = .ok (.invokestatic 29, 3) := by decide +kernel
theorem dX8_restore_6 : decode cX8_restore 6 = .ok (.ifCond .ne 6, 3) := by decide +kernel
theorem dX8_restore_9 : decode cX8_restore 9 = .ok (.ldc 70, 2) := by decide +kernel
theorem dX8_restore_11 : decode cX8_restore 11 = .ok (.ireturn, 1) := by decide +kernel
theorem dX8_restore_12 : decode cX8_restore 12 = .ok (.aload_n 0, 1) := by decide +kernel
theorem dX8_restore_13 : decode cX8_restore 13 = .ok (.getfield 22, 3) := by decide +kernel
theorem dX8_restore_16 : decode cX8_restore 16 = .ok (.iload_n 1, 1) := by decide +kernel
theorem dX8_restore_17 : decode cX8_restore 17 = .ok (.baload, 1) := by decide +kernel
theorem dX8_restore_18 : decode cX8_restore 18 = .ok (.ifCond .ne 6, 3) := by decide +kernel
theorem dX8_restore_21 : decode cX8_restore 21 = .ok (.ldc 138, 2) := by decide +kernel
theorem dX8_restore_23 : decode cX8_restore 23 = .ok (.ireturn, 1) := by decide +kernel
theorem dX8_restore_24 : decode cX8_restore 24 = .ok (.aload_n 0, 1) := by decide +kernel
theorem dX8_restore_25 : decode cX8_restore 25 = .ok (.invokevirtual 71, 3) := by decide +kernel
theorem dX8_restore_28 : decode cX8_restore 28 = .ok (.iconst 0, 1) := by decide +kernel
theorem dX8_restore_29 : decode cX8_restore 29 = .ok (.istore_n 2, 1) := by decide +kernel
theorem dX8_restore_30 : decode cX8_restore 30 = .ok (.iload_n 2, 1) := by decide +kernel
theorem dX8_restore_31 : decode cX8_restore 31 = .ok (.sipush 226, 3) := by decide +kernel
theorem dX8_restore_34 : decode cX8_restore 34 = .ok (.if_icmp .ge 27, 3) := by decide +kernel
theorem dX8_restore_37 : decode cX8_restore 37 = .ok (.aload_n 0, 1) := by decide +kernel
theorem dX8_restore_38 : decode cX8_restore 38 = .ok (.getfield 7, 3) := by decide +kernel
theorem dX8_restore_41 : decode cX8_restore 41 = .ok (.iload_n 2, 1) := by decide +kernel
theorem dX8_restore_42 : decode cX8_restore 42 = .ok (.aload_n 0, 1) := by decide +kernel
theorem dX8_restore_43 : decode cX8_restore 43 = .ok (.getfield 19, 3) := by decide +kernel
theorem dX8_restore_46 : decode cX8_restore 46 = .ok (.sipush 226, 3) := by decide +kernel
theorem dX8_restore_49 : decode cX8_restore 49 = .ok (.iload_n 1, 1) := by decide +kernel
theorem dX8_restore_50 : decode cX8_restore 50 = .ok (.imul, 1) := by decide +kernel
theorem dX8_restore_51 : decode cX8_restore 51 = .ok (.iload_n 2, 1) := by decide +kernel
theorem dX8_restore_52 : decode cX8_restore 52 = .ok (.iadd, 1) := by decide +kernel
theorem dX8_restore_53 : decode cX8_restore 53 = .ok (.iaload, 1) := by decide +kernel
theorem dX8_restore_54 : decode cX8_restore 54 = .ok (.iastore, 1) := by decide +kernel
theorem dX8_restore_55 : decode cX8_restore 55 = .ok (.iinc 2 1, 3) := by decide +kernel
theorem dX8_restore_58 : decode cX8_restore 58 = .ok (.goto (-28), 3) := by decide +kernel
theorem dX8_restore_61 : decode cX8_restore 61 = .ok (.aload_n 0, 1) := by decide +kernel
theorem dX8_restore_62 : decode cX8_restore 62 = .ok (.getfield 7, 3) := by decide +kernel
theorem dX8_restore_65 : decode cX8_restore 65 = .ok (.bipush 104, 2) := by decide +kernel
theorem dX8_restore_67 : decode cX8_restore 67 = .ok (.iaload, 1) := by decide +kernel
theorem dX8_restore_68 : decode cX8_restore 68 = .ok (.ireturn, 1) := by decide +kernel
/-! THE MODEL: its object Y, its row s of numbers at Y+1, five more arrays Y+2 .. Y+6 (aside, before, kept, isKept, pad) -/
abbrev yE (Y : Nat) (ns : Nat → Int32) : va_E := .inr (8, [.ref (Y + 1), .ref (Y + 1 + 1), .ref (Y + 1 + 2), .int (ns 0), .ref (Y + 1 + 3), .ref (Y + 1 + 4), .ref (Y + 1 + 5), .int (ns 1), .int (ns 2), .int (ns 3)])
def mlen (a : Nat) : Nat := if a = 1 then 226 else if a = 2 then 1356 else if a = 3 then 452 else if a = 4 then 2 else 60
def RepM (g : GG) (A : Nat → Prop) (M : MM) (Y : Nat) (σ : Nat → Int32) (ar : Nat → Nat → Int32) (ns : Nat → Int32) : Prop :=
  (∀ q, Y ≤ q → q < Y + 7 → A q) ∧ M Y = yE Y ns ∧ M (Y + 1) = .inl (g.2 1, 226, .inl σ) ∧ (∀ a, 1 ≤ a → a < 6 → a ≠ 4 → M (Y + 1 + a) = .inl (g.2 1, mlen a, .inl (ar a))) ∧ M (Y + 1 + 4) = .inl (g.2 2, 2, .inl (ar 4))
def FrM (Y : Nat) (M0 M : MM) : Prop := ∀ q, ¬ (Y ≤ q ∧ q < Y + 7) → M q = M0 q
theorem FrM.rf {Y : Nat} {M : MM} : FrM Y M M := fun _ _ => rfl
theorem FrM.tr {Y : Nat} {M0 M1 M2 : MM} (h1 : FrM Y M0 M1) (h2 : FrM Y M1 M2) : FrM Y M0 M2 := fun q z => (h2 q z).trans (h1 q z)
theorem FrM.up {Y : Nat} {M0 M : MM} (hF : FrM Y M0 M) {q : Nat} {e : va_E} (h1 : Y ≤ q) (h2 : q < Y + 7) : FrM Y M0 (va_up M q e) := fun z w => by
  rw [va_up_ne _ _ (by omega)]
  exact hF z w
theorem RepM.eqv {g : GG} {A : Nat → Prop} {M : MM} {Y : Nat} {σ σ' : Nat → Int32} {ar ar' : Nat → Nat → Int32} {ns ns' : Nat → Int32} (h : RepM g A M Y σ ar ns) (e1 : σ' = σ) (e2 : ar' = ar) (e3 : ns' = ns) : RepM g A M Y σ' ar' ns' := by rw [e1, e2, e3]; exact h
theorem RepM.agr {g : GG} {A : Nat → Prop} {M M1 : MM} {Y : Nat} {σ : Nat → Int32} {ar : Nat → Nat → Int32} {ns : Nat → Int32} (h : RepM g A M Y σ ar ns) (ha : ∀ q, Y ≤ q → q < Y + 7 → M1 q = M q) : RepM g A M1 Y σ ar ns := by
  obtain ⟨h1, h2, h3, h4, h5⟩ := h
  exact ⟨h1, by rw [ha _ (by omega) (by omega)]; exact h2, by rw [ha _ (by omega) (by omega)]; exact h3, fun a z1 z2 z3 => by rw [ha _ (by omega) (by omega)]; exact h4 a z1 z2 z3, by rw [ha _ (by omega) (by omega)]; exact h5⟩
theorem mlen_lt (a : Nat) : mlen a < 2 ^ 31 := by
  unfold mlen
  (repeat' split) <;> omega
section MROWS
variable {p : Program} {l : Launch} {e : Env} {R : Room} {s : State} {m : MethodId} {args : Array Value} {below : List Frame} {meth : Method} {c : Code} {H H0 : Heap} {locs : List Loc} {cells slots : Nat} {Q : State → Prop} {cc : ByteArray} {pc : Nat} {ls : Array Slot} {rest : List Value} {g : GG} {A : Nat → Prop} {M M0 : MM} {own : String} {index : Nat} {Ts : List Cond} {Y : Nat} {σ : Nat → Int32} {ar : Nat → Nat → Int32} {ns : Nat → Int32}
theorem rm_getS (hx : p.tables.exec = Jvm.exec) (hb : c.code = cc) (hts : ∀ w ∈ Ts, w.before args s = true) (hin : ∀ w ∈ u_ws RX8 TX8 10, w ∈ Ts) (hown : s.vm.findClass own = some m.cls) (hK : KK g s) (hM : HD g A M H) (hR : RepM g A M Y σ ar ns) (hlink : (Cond.fieldLink own index (TX8 0).1 (TX8 0).2.1 (TX8 0).2.2.1).before args s = true) (hdg : decode cc pc = .ok (.getfield index, 3)) (kk : W p l e R s m args below meth c H locs cells slots Q (F0 m (pc + 3) ls (.ref (Y + 1) :: rest))) : W p l e R s m args below meth c H locs cells slots Q (F0 m (pc) ls (.ref Y :: rest)) :=
  m_get (ci := 8) (C := RX8) (T := TX8) (N := 10) hx hb hts hin hown hK hM (hR.1 Y (by omega) (by omega)) hR.2.1 rfl 0 (by decide) hlink rfl hdg kk
theorem rm_getA1 (hx : p.tables.exec = Jvm.exec) (hb : c.code = cc) (hts : ∀ w ∈ Ts, w.before args s = true) (hin : ∀ w ∈ u_ws RX8 TX8 10, w ∈ Ts) (hown : s.vm.findClass own = some m.cls) (hK : KK g s) (hM : HD g A M H) (hR : RepM g A M Y σ ar ns) (hlink : (Cond.fieldLink own index (TX8 1).1 (TX8 1).2.1 (TX8 1).2.2.1).before args s = true) (hdg : decode cc pc = .ok (.getfield index, 3)) (kk : W p l e R s m args below meth c H locs cells slots Q (F0 m (pc + 3) ls (.ref (Y + 1 + 1) :: rest))) : W p l e R s m args below meth c H locs cells slots Q (F0 m (pc) ls (.ref Y :: rest)) :=
  m_get (ci := 8) (C := RX8) (T := TX8) (N := 10) hx hb hts hin hown hK hM (hR.1 Y (by omega) (by omega)) hR.2.1 rfl 1 (by decide) hlink rfl hdg kk
theorem rm_getA2 (hx : p.tables.exec = Jvm.exec) (hb : c.code = cc) (hts : ∀ w ∈ Ts, w.before args s = true) (hin : ∀ w ∈ u_ws RX8 TX8 10, w ∈ Ts) (hown : s.vm.findClass own = some m.cls) (hK : KK g s) (hM : HD g A M H) (hR : RepM g A M Y σ ar ns) (hlink : (Cond.fieldLink own index (TX8 2).1 (TX8 2).2.1 (TX8 2).2.2.1).before args s = true) (hdg : decode cc pc = .ok (.getfield index, 3)) (kk : W p l e R s m args below meth c H locs cells slots Q (F0 m (pc + 3) ls (.ref (Y + 1 + 2) :: rest))) : W p l e R s m args below meth c H locs cells slots Q (F0 m (pc) ls (.ref Y :: rest)) :=
  m_get (ci := 8) (C := RX8) (T := TX8) (N := 10) hx hb hts hin hown hK hM (hR.1 Y (by omega) (by omega)) hR.2.1 rfl 2 (by decide) hlink rfl hdg kk
theorem rm_getN0 (hx : p.tables.exec = Jvm.exec) (hb : c.code = cc) (hts : ∀ w ∈ Ts, w.before args s = true) (hin : ∀ w ∈ u_ws RX8 TX8 10, w ∈ Ts) (hown : s.vm.findClass own = some m.cls) (hK : KK g s) (hM : HD g A M H) (hR : RepM g A M Y σ ar ns) (hlink : (Cond.fieldLink own index (TX8 3).1 (TX8 3).2.1 (TX8 3).2.2.1).before args s = true) (hdg : decode cc pc = .ok (.getfield index, 3)) (kk : W p l e R s m args below meth c H locs cells slots Q (F0 m (pc + 3) ls (.int (ns 0) :: rest))) : W p l e R s m args below meth c H locs cells slots Q (F0 m (pc) ls (.ref Y :: rest)) :=
  m_get (ci := 8) (C := RX8) (T := TX8) (N := 10) hx hb hts hin hown hK hM (hR.1 Y (by omega) (by omega)) hR.2.1 rfl 3 (by decide) hlink rfl hdg kk
theorem rm_getA3 (hx : p.tables.exec = Jvm.exec) (hb : c.code = cc) (hts : ∀ w ∈ Ts, w.before args s = true) (hin : ∀ w ∈ u_ws RX8 TX8 10, w ∈ Ts) (hown : s.vm.findClass own = some m.cls) (hK : KK g s) (hM : HD g A M H) (hR : RepM g A M Y σ ar ns) (hlink : (Cond.fieldLink own index (TX8 4).1 (TX8 4).2.1 (TX8 4).2.2.1).before args s = true) (hdg : decode cc pc = .ok (.getfield index, 3)) (kk : W p l e R s m args below meth c H locs cells slots Q (F0 m (pc + 3) ls (.ref (Y + 1 + 3) :: rest))) : W p l e R s m args below meth c H locs cells slots Q (F0 m (pc) ls (.ref Y :: rest)) :=
  m_get (ci := 8) (C := RX8) (T := TX8) (N := 10) hx hb hts hin hown hK hM (hR.1 Y (by omega) (by omega)) hR.2.1 rfl 4 (by decide) hlink rfl hdg kk
theorem rm_getA4 (hx : p.tables.exec = Jvm.exec) (hb : c.code = cc) (hts : ∀ w ∈ Ts, w.before args s = true) (hin : ∀ w ∈ u_ws RX8 TX8 10, w ∈ Ts) (hown : s.vm.findClass own = some m.cls) (hK : KK g s) (hM : HD g A M H) (hR : RepM g A M Y σ ar ns) (hlink : (Cond.fieldLink own index (TX8 5).1 (TX8 5).2.1 (TX8 5).2.2.1).before args s = true) (hdg : decode cc pc = .ok (.getfield index, 3)) (kk : W p l e R s m args below meth c H locs cells slots Q (F0 m (pc + 3) ls (.ref (Y + 1 + 4) :: rest))) : W p l e R s m args below meth c H locs cells slots Q (F0 m (pc) ls (.ref Y :: rest)) :=
  m_get (ci := 8) (C := RX8) (T := TX8) (N := 10) hx hb hts hin hown hK hM (hR.1 Y (by omega) (by omega)) hR.2.1 rfl 5 (by decide) hlink rfl hdg kk
theorem rm_getA5 (hx : p.tables.exec = Jvm.exec) (hb : c.code = cc) (hts : ∀ w ∈ Ts, w.before args s = true) (hin : ∀ w ∈ u_ws RX8 TX8 10, w ∈ Ts) (hown : s.vm.findClass own = some m.cls) (hK : KK g s) (hM : HD g A M H) (hR : RepM g A M Y σ ar ns) (hlink : (Cond.fieldLink own index (TX8 6).1 (TX8 6).2.1 (TX8 6).2.2.1).before args s = true) (hdg : decode cc pc = .ok (.getfield index, 3)) (kk : W p l e R s m args below meth c H locs cells slots Q (F0 m (pc + 3) ls (.ref (Y + 1 + 5) :: rest))) : W p l e R s m args below meth c H locs cells slots Q (F0 m (pc) ls (.ref Y :: rest)) :=
  m_get (ci := 8) (C := RX8) (T := TX8) (N := 10) hx hb hts hin hown hK hM (hR.1 Y (by omega) (by omega)) hR.2.1 rfl 6 (by decide) hlink rfl hdg kk
theorem rm_getN1 (hx : p.tables.exec = Jvm.exec) (hb : c.code = cc) (hts : ∀ w ∈ Ts, w.before args s = true) (hin : ∀ w ∈ u_ws RX8 TX8 10, w ∈ Ts) (hown : s.vm.findClass own = some m.cls) (hK : KK g s) (hM : HD g A M H) (hR : RepM g A M Y σ ar ns) (hlink : (Cond.fieldLink own index (TX8 7).1 (TX8 7).2.1 (TX8 7).2.2.1).before args s = true) (hdg : decode cc pc = .ok (.getfield index, 3)) (kk : W p l e R s m args below meth c H locs cells slots Q (F0 m (pc + 3) ls (.int (ns 1) :: rest))) : W p l e R s m args below meth c H locs cells slots Q (F0 m (pc) ls (.ref Y :: rest)) :=
  m_get (ci := 8) (C := RX8) (T := TX8) (N := 10) hx hb hts hin hown hK hM (hR.1 Y (by omega) (by omega)) hR.2.1 rfl 7 (by decide) hlink rfl hdg kk
theorem rm_getN2 (hx : p.tables.exec = Jvm.exec) (hb : c.code = cc) (hts : ∀ w ∈ Ts, w.before args s = true) (hin : ∀ w ∈ u_ws RX8 TX8 10, w ∈ Ts) (hown : s.vm.findClass own = some m.cls) (hK : KK g s) (hM : HD g A M H) (hR : RepM g A M Y σ ar ns) (hlink : (Cond.fieldLink own index (TX8 8).1 (TX8 8).2.1 (TX8 8).2.2.1).before args s = true) (hdg : decode cc pc = .ok (.getfield index, 3)) (kk : W p l e R s m args below meth c H locs cells slots Q (F0 m (pc + 3) ls (.int (ns 2) :: rest))) : W p l e R s m args below meth c H locs cells slots Q (F0 m (pc) ls (.ref Y :: rest)) :=
  m_get (ci := 8) (C := RX8) (T := TX8) (N := 10) hx hb hts hin hown hK hM (hR.1 Y (by omega) (by omega)) hR.2.1 rfl 8 (by decide) hlink rfl hdg kk
theorem rm_getN3 (hx : p.tables.exec = Jvm.exec) (hb : c.code = cc) (hts : ∀ w ∈ Ts, w.before args s = true) (hin : ∀ w ∈ u_ws RX8 TX8 10, w ∈ Ts) (hown : s.vm.findClass own = some m.cls) (hK : KK g s) (hM : HD g A M H) (hR : RepM g A M Y σ ar ns) (hlink : (Cond.fieldLink own index (TX8 9).1 (TX8 9).2.1 (TX8 9).2.2.1).before args s = true) (hdg : decode cc pc = .ok (.getfield index, 3)) (kk : W p l e R s m args below meth c H locs cells slots Q (F0 m (pc + 3) ls (.int (ns 3) :: rest))) : W p l e R s m args below meth c H locs cells slots Q (F0 m (pc) ls (.ref Y :: rest)) :=
  m_get (ci := 8) (C := RX8) (T := TX8) (N := 10) hx hb hts hin hown hK hM (hR.1 Y (by omega) (by omega)) hR.2.1 rfl 9 (by decide) hlink rfl hdg kk
theorem rm_putN0 (hx : p.tables.exec = Jvm.exec) (hb : c.code = cc) (hts : ∀ w ∈ Ts, w.before args s = true) (hin : ∀ w ∈ u_ws RX8 TX8 10, w ∈ Ts) (hown : s.vm.findClass own = some m.cls) (hK : KK g s) (hM : HD g A M H) (hS : va_S A H0 H locs) (hR : RepM g A M Y σ ar ns) (hF : FrM Y M0 M) (hlink : (Cond.fieldLink own index (TX8 3).1 (TX8 3).2.1 (TX8 3).2.2.1).before args s = true) {x : Int32} (hdg : decode cc pc = .ok (.putfield index, 3)) (kk : ∀ (M1 : MM) (H1 : Heap) (locs1 : List Loc), HD g A M1 H1 → RepM g A M1 Y σ ar (va_up ns 0 x) → FrM Y M0 M1 → va_S A H0 H1 locs1 → W p l e R s m args below meth c H1 locs1 cells slots Q (F0 m (pc + 3) ls rest)) : W p l e R s m args below meth c H locs cells slots Q (F0 m (pc) ls (.int x :: .ref Y :: rest)) := by
  refine m_put (ci := 8) (C := RX8) (T := TX8) (N := 10) hx hb hts hin tyX8 tyX8_ok nmX8 hown hK hM hS (hR.1 Y (by omega) (by omega)) hR.2.1 rfl 3 (by decide) hlink rfl rfl rfl (Nat.le_of_ble_eq_true rfl) hdg (fun H1 locs1 hM1 hS1 => ?_)
  obtain ⟨h1, h2, h3, h4, h5⟩ := hR
  exact kk _ H1 locs1 hM1 ⟨h1, va_up_self _ _ _, by rw [va_up_ne _ _ (by omega)]; exact h3, fun a z1 z2 z3 => by rw [va_up_ne _ _ (by omega)]; exact h4 a z1 z2 z3, by rw [va_up_ne _ _ (by omega)]; exact h5⟩ (hF.up (by omega) (by omega)) hS1
theorem rm_putN1 (hx : p.tables.exec = Jvm.exec) (hb : c.code = cc) (hts : ∀ w ∈ Ts, w.before args s = true) (hin : ∀ w ∈ u_ws RX8 TX8 10, w ∈ Ts) (hown : s.vm.findClass own = some m.cls) (hK : KK g s) (hM : HD g A M H) (hS : va_S A H0 H locs) (hR : RepM g A M Y σ ar ns) (hF : FrM Y M0 M) (hlink : (Cond.fieldLink own index (TX8 7).1 (TX8 7).2.1 (TX8 7).2.2.1).before args s = true) {x : Int32} (hdg : decode cc pc = .ok (.putfield index, 3)) (kk : ∀ (M1 : MM) (H1 : Heap) (locs1 : List Loc), HD g A M1 H1 → RepM g A M1 Y σ ar (va_up ns 1 x) → FrM Y M0 M1 → va_S A H0 H1 locs1 → W p l e R s m args below meth c H1 locs1 cells slots Q (F0 m (pc + 3) ls rest)) : W p l e R s m args below meth c H locs cells slots Q (F0 m (pc) ls (.int x :: .ref Y :: rest)) := by
  refine m_put (ci := 8) (C := RX8) (T := TX8) (N := 10) hx hb hts hin tyX8 tyX8_ok nmX8 hown hK hM hS (hR.1 Y (by omega) (by omega)) hR.2.1 rfl 7 (by decide) hlink rfl rfl rfl (Nat.le_of_ble_eq_true rfl) hdg (fun H1 locs1 hM1 hS1 => ?_)
  obtain ⟨h1, h2, h3, h4, h5⟩ := hR
  exact kk _ H1 locs1 hM1 ⟨h1, va_up_self _ _ _, by rw [va_up_ne _ _ (by omega)]; exact h3, fun a z1 z2 z3 => by rw [va_up_ne _ _ (by omega)]; exact h4 a z1 z2 z3, by rw [va_up_ne _ _ (by omega)]; exact h5⟩ (hF.up (by omega) (by omega)) hS1
theorem rm_putN2 (hx : p.tables.exec = Jvm.exec) (hb : c.code = cc) (hts : ∀ w ∈ Ts, w.before args s = true) (hin : ∀ w ∈ u_ws RX8 TX8 10, w ∈ Ts) (hown : s.vm.findClass own = some m.cls) (hK : KK g s) (hM : HD g A M H) (hS : va_S A H0 H locs) (hR : RepM g A M Y σ ar ns) (hF : FrM Y M0 M) (hlink : (Cond.fieldLink own index (TX8 8).1 (TX8 8).2.1 (TX8 8).2.2.1).before args s = true) {x : Int32} (hdg : decode cc pc = .ok (.putfield index, 3)) (kk : ∀ (M1 : MM) (H1 : Heap) (locs1 : List Loc), HD g A M1 H1 → RepM g A M1 Y σ ar (va_up ns 2 x) → FrM Y M0 M1 → va_S A H0 H1 locs1 → W p l e R s m args below meth c H1 locs1 cells slots Q (F0 m (pc + 3) ls rest)) : W p l e R s m args below meth c H locs cells slots Q (F0 m (pc) ls (.int x :: .ref Y :: rest)) := by
  refine m_put (ci := 8) (C := RX8) (T := TX8) (N := 10) hx hb hts hin tyX8 tyX8_ok nmX8 hown hK hM hS (hR.1 Y (by omega) (by omega)) hR.2.1 rfl 8 (by decide) hlink rfl rfl rfl (Nat.le_of_ble_eq_true rfl) hdg (fun H1 locs1 hM1 hS1 => ?_)
  obtain ⟨h1, h2, h3, h4, h5⟩ := hR
  exact kk _ H1 locs1 hM1 ⟨h1, va_up_self _ _ _, by rw [va_up_ne _ _ (by omega)]; exact h3, fun a z1 z2 z3 => by rw [va_up_ne _ _ (by omega)]; exact h4 a z1 z2 z3, by rw [va_up_ne _ _ (by omega)]; exact h5⟩ (hF.up (by omega) (by omega)) hS1
theorem rm_putN3 (hx : p.tables.exec = Jvm.exec) (hb : c.code = cc) (hts : ∀ w ∈ Ts, w.before args s = true) (hin : ∀ w ∈ u_ws RX8 TX8 10, w ∈ Ts) (hown : s.vm.findClass own = some m.cls) (hK : KK g s) (hM : HD g A M H) (hS : va_S A H0 H locs) (hR : RepM g A M Y σ ar ns) (hF : FrM Y M0 M) (hlink : (Cond.fieldLink own index (TX8 9).1 (TX8 9).2.1 (TX8 9).2.2.1).before args s = true) {x : Int32} (hbo : narrow .boolean (.int x) = .int x ∧ fits .boolean (.int x) = true) (hdg : decode cc pc = .ok (.putfield index, 3)) (kk : ∀ (M1 : MM) (H1 : Heap) (locs1 : List Loc), HD g A M1 H1 → RepM g A M1 Y σ ar (va_up ns 3 x) → FrM Y M0 M1 → va_S A H0 H1 locs1 → W p l e R s m args below meth c H1 locs1 cells slots Q (F0 m (pc + 3) ls rest)) : W p l e R s m args below meth c H locs cells slots Q (F0 m (pc) ls (.int x :: .ref Y :: rest)) := by
  refine m_put (ci := 8) (C := RX8) (T := TX8) (N := 10) hx hb hts hin tyX8 tyX8_ok nmX8 hown hK hM hS (hR.1 Y (by omega) (by omega)) hR.2.1 rfl 9 (by decide) hlink rfl hbo.1 hbo.2 (Nat.le_of_ble_eq_true rfl) hdg (fun H1 locs1 hM1 hS1 => ?_)
  obtain ⟨h1, h2, h3, h4, h5⟩ := hR
  exact kk _ H1 locs1 hM1 ⟨h1, va_up_self _ _ _, by rw [va_up_ne _ _ (by omega)]; exact h3, fun a z1 z2 z3 => by rw [va_up_ne _ _ (by omega)]; exact h4 a z1 z2 z3, by rw [va_up_ne _ _ (by omega)]; exact h5⟩ (hF.up (by omega) (by omega)) hS1
theorem rm_sald (hx : p.tables.exec = Jvm.exec) (hb : c.code = cc) (hK : KK g s) (hM : HD g A M H) (hR : RepM g A M Y σ ar ns) {i : Nat} (hi : i < 226) (hdg : decode cc pc = .ok (.iaload, 1)) (kk : W p l e R s m args below meth c H locs cells slots Q (F0 m (pc + 1) ls (.int (σ i) :: rest))) : W p l e R s m args below meth c H locs cells slots Q (F0 m (pc) ls (.int (nI i) :: .ref (Y + 1) :: rest)) := by
  refine m_iald hx hb hK hM (hR.1 _ (by omega) (by omega)) hR.2.2.1 (vp_in_nI hi (by omega)) hdg ?_
  rw [nI_clamp (by omega)]
  exact kk
theorem rm_sast (hx : p.tables.exec = Jvm.exec) (hb : c.code = cc) (hK : KK g s) (hM : HD g A M H) (hS : va_S A H0 H locs) (hR : RepM g A M Y σ ar ns) (hF : FrM Y M0 M) {i : Nat} (hi : i < 226) {x : Int32} (hdg : decode cc pc = .ok (.iastore, 1)) (kk : ∀ (M1 : MM) (H1 : Heap) (locs1 : List Loc), HD g A M1 H1 → RepM g A M1 Y (va_up σ i x) ar ns → FrM Y M0 M1 → va_S A H0 H1 locs1 → W p l e R s m args below meth c H1 locs1 cells slots Q (F0 m (pc + 1) ls rest)) : W p l e R s m args below meth c H locs cells slots Q (F0 m (pc) ls (.int x :: .int (nI i) :: .ref (Y + 1) :: rest)) := by
  refine m_iast hx hb hK hM hS (hR.1 _ (by omega) (by omega)) hR.2.2.1 (vp_in_nI hi (by omega)) hdg (fun H1 locs1 hM1 hS1 => ?_)
  rw [nI_clamp (show i < 2 ^ 31 by omega)] at hM1
  obtain ⟨h1, h2, h3, h4, h5⟩ := hR
  exact kk _ H1 locs1 hM1 ⟨h1, by rw [va_up_ne _ _ (by omega)]; exact h2, va_up_self _ _ _, fun a z1 z2 z3 => by rw [va_up_ne _ _ (by omega)]; exact h4 a z1 z2 z3, by rw [va_up_ne _ _ (by omega)]; exact h5⟩ (hF.up (by omega) (by omega)) hS1
theorem rm_aald (hx : p.tables.exec = Jvm.exec) (hb : c.code = cc) (hK : KK g s) (hM : HD g A M H) (hR : RepM g A M Y σ ar ns) (a : Nat) (h1a : 1 ≤ a) (ha : a < 6) (ha4 : a ≠ 4) {i : Nat} (hi : i < mlen a) (hdg : decode cc pc = .ok (.iaload, 1)) (kk : W p l e R s m args below meth c H locs cells slots Q (F0 m (pc + 1) ls (.int (ar a i) :: rest))) : W p l e R s m args below meth c H locs cells slots Q (F0 m (pc) ls (.int (nI i) :: .ref (Y + 1 + a) :: rest)) := by
  have hml : mlen a < 2 ^ 31 := mlen_lt a
  refine m_iald hx hb hK hM (hR.1 _ (by omega) (by omega)) (hR.2.2.2.1 a h1a ha ha4) (vp_in_nI hi hml) hdg ?_
  rw [nI_clamp (by omega)]
  exact kk
theorem rm_aast (hx : p.tables.exec = Jvm.exec) (hb : c.code = cc) (hK : KK g s) (hM : HD g A M H) (hS : va_S A H0 H locs) (hR : RepM g A M Y σ ar ns) (hF : FrM Y M0 M) (a : Nat) (h1a : 1 ≤ a) (ha : a < 6) (ha4 : a ≠ 4) {i : Nat} (hi : i < mlen a) {x : Int32} (hdg : decode cc pc = .ok (.iastore, 1)) (kk : ∀ (M1 : MM) (H1 : Heap) (locs1 : List Loc), HD g A M1 H1 → RepM g A M1 Y σ (va_up ar a (va_up (ar a) i x)) ns → FrM Y M0 M1 → va_S A H0 H1 locs1 → W p l e R s m args below meth c H1 locs1 cells slots Q (F0 m (pc + 1) ls rest)) : W p l e R s m args below meth c H locs cells slots Q (F0 m (pc) ls (.int x :: .int (nI i) :: .ref (Y + 1 + a) :: rest)) := by
  have hml : mlen a < 2 ^ 31 := mlen_lt a
  refine m_iast hx hb hK hM hS (hR.1 _ (by omega) (by omega)) (hR.2.2.2.1 a h1a ha ha4) (vp_in_nI hi hml) hdg (fun H1 locs1 hM1 hS1 => ?_)
  rw [nI_clamp (show i < 2 ^ 31 by omega)] at hM1
  obtain ⟨h1, h2, h3, h4, h5⟩ := hR
  refine kk _ H1 locs1 hM1 ⟨h1, by rw [va_up_ne _ _ (by omega)]; exact h2, by rw [va_up_ne _ _ (by omega)]; exact h3, fun b z1 z2 z3 => ?_, ?_⟩ (hF.up (by omega) (by omega)) hS1
  · by_cases hba : b = a
    · subst hba
      rw [va_up_self, va_up_self]
      rfl
    · rw [va_up_ne _ _ (by omega), va_up_ne _ _ hba]; exact h4 b z1 z2 z3
  · rw [va_up_ne _ _ (by omega), va_up_ne _ _ (Ne.symm ha4)]; exact h5
theorem rm_zald (hx : p.tables.exec = Jvm.exec) (hb : c.code = cc) (hK : KK g s) (hM : HD g A M H) (hR : RepM g A M Y σ ar ns) {i : Nat} (hi : i < 2) (hdg : decode cc pc = .ok (.baload, 1)) (kk : W p l e R s m args below meth c H locs cells slots Q (F0 m (pc + 1) ls (.int (ar 4 i) :: rest))) : W p l e R s m args below meth c H locs cells slots Q (F0 m (pc) ls (.int (nI i) :: .ref (Y + 1 + 4) :: rest)) := by
  refine m_zald hx hb hK hM (hR.1 _ (by omega) (by omega)) hR.2.2.2.2 (vp_in_nI hi (by omega)) hdg ?_
  rw [nI_clamp (by omega)]
  exact kk
theorem rm_zast (hx : p.tables.exec = Jvm.exec) (hb : c.code = cc) (hK : KK g s) (hM : HD g A M H) (hS : va_S A H0 H locs) (hR : RepM g A M Y σ ar ns) (hF : FrM Y M0 M) {i : Nat} (hi : i < 2) {x : Int32} (hdg : decode cc pc = .ok (.bastore, 1)) (kk : ∀ (M1 : MM) (H1 : Heap) (locs1 : List Loc), HD g A M1 H1 → RepM g A M1 Y σ (va_up ar 4 (va_up (ar 4) i (vp_nar .boolean x))) ns → FrM Y M0 M1 → va_S A H0 H1 locs1 → W p l e R s m args below meth c H1 locs1 cells slots Q (F0 m (pc + 1) ls rest)) : W p l e R s m args below meth c H locs cells slots Q (F0 m (pc) ls (.int x :: .int (nI i) :: .ref (Y + 1 + 4) :: rest)) := by
  refine m_zast hx hb hK hM hS (hR.1 _ (by omega) (by omega)) hR.2.2.2.2 (vp_in_nI hi (by omega)) hdg (fun H1 locs1 hM1 hS1 => ?_)
  rw [nI_clamp (show i < 2 ^ 31 by omega)] at hM1
  obtain ⟨h1, h2, h3, h4, h5⟩ := hR
  refine kk _ H1 locs1 hM1 ⟨h1, by rw [va_up_ne _ _ (by omega)]; exact h2, by rw [va_up_ne _ _ (by omega)]; exact h3, fun b z1 z2 z3 => ?_, ?_⟩ (hF.up (by omega) (by omega)) hS1
  · rw [va_up_ne _ _ (by omega), va_up_ne _ _ z3]; exact h4 b z1 z2 z3
  · rw [va_up_self, va_up_self]
    rfl
end MROWS
