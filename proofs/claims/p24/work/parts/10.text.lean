theorem dX7_init_0 : decode cX7_init 0 = .ok (.aload_n 0, 1) := by decide +kernel
theorem dX7_init_1 : decode cX7_init 1 = .ok (.invokespecial 1, 3) := by decide +kernel
theorem dX7_init_4 : decode cX7_init 4 = .ok (.aload_n 0, 1) := by decide +kernel
theorem dX7_init_5 : decode cX7_init 5 = .ok (.new 7, 3) := by decide +kernel
theorem dX7_init_8 : decode cX7_init 8 = .ok (.dup, 1) := by decide +kernel
theorem dX7_init_9 : decode cX7_init 9 = .ok (.invokespecial 9, 3) := by decide +kernel
theorem dX7_init_12 : decode cX7_init 12 = .ok (.putfield 10, 3) := by decide +kernel
theorem dX7_init_15 : decode cX7_init 15 = .ok (.aload_n 0, 1) := by decide +kernel
theorem dX7_init_16 : decode cX7_init 16 = .ok (.new 7, 3) := by decide +kernel
theorem dX7_init_19 : decode cX7_init 19 = .ok (.dup, 1) := by decide +kernel
theorem dX7_init_20 : decode cX7_init 20 = .ok (.invokespecial 9, 3) := by decide +kernel
theorem dX7_init_23 : decode cX7_init 23 = .ok (.putfield 16, 3) := by decide +kernel
theorem dX7_init_26 : decode cX7_init 26 = .ok (.aload_n 0, 1) := by decide +kernel
theorem dX7_init_27 : decode cX7_init 27 = .ok (.new 19, 3) := by decide +kernel
theorem dX7_init_30 : decode cX7_init 30 = .ok (.dup, 1) := by decide +kernel
theorem dX7_init_31 : decode cX7_init 31 = .ok (.invokespecial 21, 3) := by decide +kernel
theorem dX7_init_34 : decode cX7_init 34 = .ok (.putfield 22, 3) := by decide +kernel
theorem dX7_init_37 : decode cX7_init 37 = .ok (.aload_n 0, 1) := by decide +kernel
theorem dX7_init_38 : decode cX7_init 38 = .ok (.iconst 2, 1) := by decide +kernel
theorem dX7_init_39 : decode cX7_init 39 = .ok (.anewarray 7, 3) := by decide +kernel
theorem dX7_init_42 : decode cX7_init 42 = .ok (.putfield 26, 3) := by decide +kernel
theorem dX7_init_45 : decode cX7_init 45 = .ok (.aload_n 0, 1) := by decide +kernel
theorem dX7_init_46 : decode cX7_init 46 = .ok (.iconst 2, 1) := by decide +kernel
theorem dX7_init_47 : decode cX7_init 47 = .ok (.newarray .boolean, 2) := by decide +kernel
theorem dX7_init_49 : decode cX7_init 49 = .ok (.putfield 30, 3) := by decide +kernel
theorem dX7_init_52 : decode cX7_init 52 = .ok (.aload_n 0, 1) := by decide +kernel
theorem dX7_init_53 : decode cX7_init 53 = .ok (.new 34, 3) := by decide +kernel
theorem dX7_init_56 : decode cX7_init 56 = .ok (.dup, 1) := by decide +kernel
theorem dX7_init_57 : decode cX7_init 57 = .ok (.invokespecial 36, 3) := by decide +kernel
theorem dX7_init_60 : decode cX7_init 60 = .ok (.putfield 37, 3) := by decide +kernel
theorem dX7_init_63 : decode cX7_init 63 = .ok (.aload_n 0, 1) := by decide +kernel
theorem dX7_init_64 : decode cX7_init 64 = .ok (.new 41, 3) := by decide +kernel
theorem dX7_init_67 : decode cX7_init 67 = .ok (.dup, 1) := by decide +kernel
theorem dX7_init_68 : decode cX7_init 68 = .ok (.aload_n 0, 1) := by decide +kernel
theorem dX7_init_69 : decode cX7_init 69 = .ok (.getfield 37, 3) := by decide +kernel
theorem dX7_init_72 : decode cX7_init 72 = .ok (.invokespecial 43, 3) := by decide +kernel
theorem dX7_init_75 : decode cX7_init 75 = .ok (.putfield 46, 3) := by decide +kernel
theorem dX7_init_78 : decode cX7_init 78 = .ok (.iconst 0, 1) := by decide +kernel
theorem dX7_init_79 : decode cX7_init 79 = .ok (.istore_n 1, 1) := by decide +kernel
theorem dX7_init_80 : decode cX7_init 80 = .ok (.iload_n 1, 1) := by decide +kernel
theorem dX7_init_81 : decode cX7_init 81 = .ok (.aload_n 0, 1) := by decide +kernel
theorem dX7_init_82 : decode cX7_init 82 = .ok (.getfield 26, 3) := by decide +kernel
theorem dX7_init_85 : decode cX7_init 85 = .ok (.arraylength, 1) := by decide +kernel
theorem dX7_init_86 : decode cX7_init 86 = .ok (.if_icmp .ge 22, 3) := by decide +kernel
theorem dX7_init_89 : decode cX7_init 89 = .ok (.aload_n 0, 1) := by decide +kernel
theorem dX7_init_90 : decode cX7_init 90 = .ok (.getfield 26, 3) := by decide +kernel
theorem dX7_init_93 : decode cX7_init 93 = .ok (.iload_n 1, 1) := by decide +kernel
theorem dX7_init_94 : decode cX7_init 94 = .ok (.new 7, 3) := by decide +kernel
theorem dX7_init_97 : decode cX7_init 97 = .ok (.dup, 1) := by decide +kernel
theorem dX7_init_98 : decode cX7_init 98 = .ok (.invokespecial 9, 3) := by decide +kernel
theorem dX7_init_101 : decode cX7_init 101 = .ok (.aastore, 1) := by decide +kernel
theorem dX7_init_102 : decode cX7_init 102 = .ok (.iinc 1 1, 3) := by decide +kernel
theorem dX7_init_105 : decode cX7_init 105 = .ok (.goto (-25), 3) := by decide +kernel
theorem dX7_init_108 : decode cX7_init 108 = .ok (.return_, 1) := by decide +kernel
theorem dX7_set_0 : decode cX7_set 0 = .ok (.iload_n 1, 1) := by decide +kernel
theorem dX7_set_1 : decode cX7_set 1 = .ok (.ifCond .ne 42, 3) := by decide +kernel
theorem dX7_set_4 : decode cX7_set 4 = .ok (.iload_n 2, 1) := by decide +kernel
theorem dX7_set_5 : decode cX7_set 5 = .ok (.iconst 4, 1) := by decide +kernel
theorem dX7_set_6 : decode cX7_set 6 = .ok (.bipush 60, 2) := by decide +kernel
theorem dX7_set_8 : decode cX7_set 8 = .ok (.invokestatic 50, 3) := by decide +kernel
theorem dX7_set_11 : decode cX7_set 11 = .ok (.ifCond .eq 32, 3) := by decide +kernel
theorem dX7_set_14 : decode cX7_set 14 = .ok (.aload_n 0, 1) := by decide +kernel
theorem dX7_set_15 : decode cX7_set 15 = .ok (.getfield 22, 3) := by decide +kernel
theorem dX7_set_18 : decode cX7_set 18 = .ok (.aload_n 0, 1) := by decide +kernel
theorem dX7_set_19 : decode cX7_set 19 = .ok (.getfield 10, 3) := by decide +kernel
theorem dX7_set_22 : decode cX7_set 22 = .ok (.invokevirtual 54, 3) := by decide +kernel
theorem dX7_set_25 : decode cX7_set 25 = .ok (.aload_n 0, 1) := by decide +kernel
theorem dX7_set_26 : decode cX7_set 26 = .ok (.getfield 10, 3) := by decide +kernel
theorem dX7_set_29 : decode cX7_set 29 = .ok (.getfield 58, 3) := by decide +kernel
theorem dX7_set_32 : decode cX7_set 32 = .ok (.istore_n 3, 1) := by decide +kernel
theorem dX7_set_33 : decode cX7_set 33 = .ok (.aload_n 0, 1) := by decide +kernel
theorem dX7_set_34 : decode cX7_set 34 = .ok (.getfield 10, 3) := by decide +kernel
theorem dX7_set_37 : decode cX7_set 37 = .ok (.iload_n 2, 1) := by decide +kernel
theorem dX7_set_38 : decode cX7_set 38 = .ok (.invokevirtual 62, 3) := by decide +kernel
theorem dX7_set_41 : decode cX7_set 41 = .ok (.iload_n 3, 1) := by decide +kernel
theorem dX7_set_42 : decode cX7_set 42 = .ok (.ireturn, 1) := by decide +kernel
theorem dX7_set_43 : decode cX7_set 43 = .ok (.iload_n 1, 1) := by decide +kernel
theorem dX7_set_44 : decode cX7_set 44 = .ok (.iconst 1, 1) := by decide +kernel
theorem dX7_set_45 : decode cX7_set 45 = .ok (.if_icmp .ne 41, 3) := by decide +kernel
theorem dX7_set_48 : decode cX7_set 48 = .ok (.iload_n 2, 1) := by decide +kernel
theorem dX7_set_49 : decode cX7_set 49 = .ok (.iconst 0, 1) := by decide +kernel
theorem dX7_set_50 : decode cX7_set 50 = .ok (.iconst 1, 1) := by decide +kernel
theorem dX7_set_51 : decode cX7_set 51 = .ok (.invokestatic 50, 3) := by decide +kernel
theorem dX7_set_54 : decode cX7_set 54 = .ok (.ifCond .eq 32, 3) := by decide +kernel
theorem dX7_set_57 : decode cX7_set 57 = .ok (.aload_n 0, 1) := by decide +kernel
theorem dX7_set_58 : decode cX7_set 58 = .ok (.getfield 22, 3) := by decide +kernel
theorem dX7_set_61 : decode cX7_set 61 = .ok (.aload_n 0, 1) := by decide +kernel
theorem dX7_set_62 : decode cX7_set 62 = .ok (.getfield 10, 3) := by decide +kernel
theorem dX7_set_65 : decode cX7_set 65 = .ok (.invokevirtual 54, 3) := by decide +kernel
theorem dX7_set_68 : decode cX7_set 68 = .ok (.aload_n 0, 1) := by decide +kernel
theorem dX7_set_69 : decode cX7_set 69 = .ok (.getfield 10, 3) := by decide +kernel
theorem dX7_set_72 : decode cX7_set 72 = .ok (.getfield 66, 3) := by decide +kernel
theorem dX7_set_75 : decode cX7_set 75 = .ok (.istore_n 3, 1) := by decide +kernel
theorem dX7_set_76 : decode cX7_set 76 = .ok (.aload_n 0, 1) := by decide +kernel
theorem dX7_set_77 : decode cX7_set 77 = .ok (.getfield 10, 3) := by decide +kernel
theorem dX7_set_80 : decode cX7_set 80 = .ok (.iload_n 2, 1) := by decide +kernel
theorem dX7_set_81 : decode cX7_set 81 = .ok (.putfield 66, 3) := by decide +kernel
theorem dX7_set_84 : decode cX7_set 84 = .ok (.iload_n 3, 1) := by decide +kernel
theorem dX7_set_85 : decode cX7_set 85 = .ok (.ireturn, 1) := by decide +kernel
theorem dX7_set_86 : decode cX7_set 86 = .ok (.ldc 69, 2) := by decide +kernel
theorem dX7_set_88 : decode cX7_set 88 = .ok (.ireturn, 1) := by decide +kernel
theorem dX7_gauge_0 : decode cX7_gauge 0 = .ok (.aload_n 0, 1) := by decide +kernel
theorem dX7_gauge_1 : decode cX7_gauge 1 = .ok (.getfield 10, 3) := by decide +kernel
theorem dX7_gauge_4 : decode cX7_gauge 4 = .ok (.iload_n 1, 1) := by decide +kernel
theorem dX7_gauge_5 : decode cX7_gauge 5 = .ok (.invokevirtual 70, 3) := by decide +kernel
theorem dX7_gauge_8 : decode cX7_gauge 8 = .ok (.astore 6, 2) := by decide +kernel
theorem dX7_gauge_10 : decode cX7_gauge 10 = .ok (.aload 6, 2) := by decide +kernel
theorem dX7_gauge_12 : decode cX7_gauge 12 = .ok (.ifnonnull 6, 3) := by decide +kernel
theorem dX7_gauge_15 : decode cX7_gauge 15 = .ok (.ldc 74, 2) := by decide +kernel
theorem dX7_gauge_17 : decode cX7_gauge 17 = .ok (.ireturn, 1) := by decide +kernel
theorem dX7_gauge_18 : decode cX7_gauge 18 = .ok (.iload_n 2, 1) := by decide +kernel
theorem dX7_gauge_19 : decode cX7_gauge 19 = .ok (.iconst 1, 1) := by decide +kernel
theorem dX7_gauge_20 : decode cX7_gauge 20 = .ok (.bipush 9, 2) := by decide +kernel
theorem dX7_gauge_22 : decode cX7_gauge 22 = .ok (.invokestatic 50, 3) := by decide +kernel
theorem dX7_gauge_25 : decode cX7_gauge 25 = .ok (.ifCond .eq 17, 3) := by decide +kernel
theorem dX7_gauge_28 : decode cX7_gauge 28 = .ok (.iload_n 3, 1) := by decide +kernel
theorem dX7_gauge_29 : decode cX7_gauge 29 = .ok (.iconst 1, 1) := by decide +kernel
theorem dX7_gauge_30 : decode cX7_gauge 30 = .ok (.bipush 50, 2) := by decide +kernel
theorem dX7_gauge_32 : decode cX7_gauge 32 = .ok (.invokestatic 50, 3) := by decide +kernel
theorem dX7_gauge_35 : decode cX7_gauge 35 = .ok (.ifCond .eq 7, 3) := by decide +kernel
theorem dX7_gauge_38 : decode cX7_gauge 38 = .ok (.iconst 1, 1) := by decide +kernel
theorem dX7_gauge_39 : decode cX7_gauge 39 = .ok (.goto 4, 3) := by decide +kernel
theorem dX7_gauge_42 : decode cX7_gauge 42 = .ok (.iconst 0, 1) := by decide +kernel
theorem dX7_gauge_43 : decode cX7_gauge 43 = .ok (.istore 7, 2) := by decide +kernel
theorem dX7_gauge_45 : decode cX7_gauge 45 = .ok (.iload 7, 2) := by decide +kernel
theorem dX7_gauge_47 : decode cX7_gauge 47 = .ok (.ifCond .eq 26, 3) := by decide +kernel
theorem dX7_gauge_50 : decode cX7_gauge 50 = .ok (.iload 4, 2) := by decide +kernel
theorem dX7_gauge_52 : decode cX7_gauge 52 = .ok (.iconst 0, 1) := by decide +kernel
theorem dX7_gauge_53 : decode cX7_gauge 53 = .ok (.sipush 200, 3) := by decide +kernel
theorem dX7_gauge_56 : decode cX7_gauge 56 = .ok (.invokestatic 50, 3) := by decide +kernel
theorem dX7_gauge_59 : decode cX7_gauge 59 = .ok (.ifCond .eq 14, 3) := by decide +kernel
theorem dX7_gauge_62 : decode cX7_gauge 62 = .ok (.iload 5, 2) := by decide +kernel
theorem dX7_gauge_64 : decode cX7_gauge 64 = .ok (.iconst 0, 1) := by decide +kernel
theorem dX7_gauge_65 : decode cX7_gauge 65 = .ok (.bipush 9, 2) := by decide +kernel
theorem dX7_gauge_67 : decode cX7_gauge 67 = .ok (.invokestatic 50, 3) := by decide +kernel
theorem dX7_gauge_70 : decode cX7_gauge 70 = .ok (.ifCond .ne 6, 3) := by decide +kernel
theorem dX7_gauge_73 : decode cX7_gauge 73 = .ok (.ldc 69, 2) := by decide +kernel
theorem dX7_gauge_75 : decode cX7_gauge 75 = .ok (.ireturn, 1) := by decide +kernel
theorem dX7_gauge_76 : decode cX7_gauge 76 = .ok (.aload_n 0, 1) := by decide +kernel
theorem dX7_gauge_77 : decode cX7_gauge 77 = .ok (.getfield 22, 3) := by decide +kernel
theorem dX7_gauge_80 : decode cX7_gauge 80 = .ok (.aload_n 0, 1) := by decide +kernel
theorem dX7_gauge_81 : decode cX7_gauge 81 = .ok (.getfield 10, 3) := by decide +kernel
theorem dX7_gauge_84 : decode cX7_gauge 84 = .ok (.invokevirtual 54, 3) := by decide +kernel
theorem dX7_gauge_87 : decode cX7_gauge 87 = .ok (.aload 6, 2) := by decide +kernel
theorem dX7_gauge_89 : decode cX7_gauge 89 = .ok (.iload_n 2, 1) := by decide +kernel
theorem dX7_gauge_90 : decode cX7_gauge 90 = .ok (.putfield 75, 3) := by decide +kernel
theorem dX7_gauge_93 : decode cX7_gauge 93 = .ok (.aload 6, 2) := by decide +kernel
theorem dX7_gauge_95 : decode cX7_gauge 95 = .ok (.iload_n 3, 1) := by decide +kernel
theorem dX7_gauge_96 : decode cX7_gauge 96 = .ok (.putfield 80, 3) := by decide +kernel
theorem dX7_gauge_99 : decode cX7_gauge 99 = .ok (.aload 6, 2) := by decide +kernel
theorem dX7_gauge_101 : decode cX7_gauge 101 = .ok (.iload 4, 2) := by decide +kernel
theorem dX7_gauge_103 : decode cX7_gauge 103 = .ok (.putfield 83, 3) := by decide +kernel
theorem dX7_gauge_106 : decode cX7_gauge 106 = .ok (.aload 6, 2) := by decide +kernel
theorem dX7_gauge_108 : decode cX7_gauge 108 = .ok (.iload 5, 2) := by decide +kernel
theorem dX7_gauge_110 : decode cX7_gauge 110 = .ok (.putfield 86, 3) := by decide +kernel
theorem dX7_gauge_113 : decode cX7_gauge 113 = .ok (.aload 6, 2) := by decide +kernel
theorem dX7_gauge_115 : decode cX7_gauge 115 = .ok (.getfield 89, 3) := by decide +kernel
theorem dX7_gauge_118 : decode cX7_gauge 118 = .ok (.ireturn, 1) := by decide +kernel
theorem dX7_rain_0 : decode cX7_rain 0 = .ok (.iload_n 1, 1) := by decide +kernel
theorem dX7_rain_1 : decode cX7_rain 1 = .ok (.iconst 0, 1) := by decide +kernel
theorem dX7_rain_2 : decode cX7_rain 2 = .ok (.bipush 99, 2) := by decide +kernel
theorem dX7_rain_4 : decode cX7_rain 4 = .ok (.invokestatic 50, 3) := by decide +kernel
theorem dX7_rain_7 : decode cX7_rain 7 = .ok (.ifCond .eq 13, 3) := by decide +kernel
theorem dX7_rain_10 : decode cX7_rain 10 = .ok (.iload_n 2, 1) := by decide +kernel
theorem dX7_rain_11 : decode cX7_rain 11 = .ok (.iconst 1, 1) := by decide +kernel
theorem dX7_rain_12 : decode cX7_rain 12 = .ok (.bipush 24, 2) := by decide +kernel
theorem dX7_rain_14 : decode cX7_rain 14 = .ok (.invokestatic 50, 3) := by decide +kernel
theorem dX7_rain_17 : decode cX7_rain 17 = .ok (.ifCond .ne 6, 3) := by decide +kernel
theorem dX7_rain_20 : decode cX7_rain 20 = .ok (.ldc 69, 2) := by decide +kernel
theorem dX7_rain_22 : decode cX7_rain 22 = .ok (.ireturn, 1) := by decide +kernel
theorem dX7_rain_23 : decode cX7_rain 23 = .ok (.aload_n 0, 1) := by decide +kernel
theorem dX7_rain_24 : decode cX7_rain 24 = .ok (.getfield 10, 3) := by decide +kernel
theorem dX7_rain_27 : decode cX7_rain 27 = .ok (.iload_n 2, 1) := by decide +kernel
theorem dX7_rain_28 : decode cX7_rain 28 = .ok (.invokevirtual 92, 3) := by decide +kernel
theorem dX7_rain_31 : decode cX7_rain 31 = .ok (.ifCond .ne 6, 3) := by decide +kernel
theorem dX7_rain_34 : decode cX7_rain 34 = .ok (.ldc 96, 2) := by decide +kernel
theorem dX7_rain_36 : decode cX7_rain 36 = .ok (.ireturn, 1) := by decide +kernel
theorem dX7_rain_37 : decode cX7_rain 37 = .ok (.aload_n 0, 1) := by decide +kernel
theorem dX7_rain_38 : decode cX7_rain 38 = .ok (.getfield 22, 3) := by decide +kernel
theorem dX7_rain_41 : decode cX7_rain 41 = .ok (.aload_n 0, 1) := by decide +kernel
theorem dX7_rain_42 : decode cX7_rain 42 = .ok (.getfield 10, 3) := by decide +kernel
theorem dX7_rain_45 : decode cX7_rain 45 = .ok (.invokevirtual 54, 3) := by decide +kernel
theorem dX7_rain_48 : decode cX7_rain 48 = .ok (.aload_n 0, 1) := by decide +kernel
theorem dX7_rain_49 : decode cX7_rain 49 = .ok (.getfield 10, 3) := by decide +kernel
theorem dX7_rain_52 : decode cX7_rain 52 = .ok (.iload_n 1, 1) := by decide +kernel
theorem dX7_rain_53 : decode cX7_rain 53 = .ok (.iload_n 2, 1) := by decide +kernel
theorem dX7_rain_54 : decode cX7_rain 54 = .ok (.invokevirtual 97, 3) := by decide +kernel
theorem dX7_rain_57 : decode cX7_rain 57 = .ok (.ireturn, 1) := by decide +kernel
theorem dX7_send_0 : decode cX7_send 0 = .ok (.aload_n 0, 1) := by decide +kernel
theorem dX7_send_1 : decode cX7_send 1 = .ok (.getfield 10, 3) := by decide +kernel
theorem dX7_send_4 : decode cX7_send 4 = .ok (.iload_n 1, 1) := by decide +kernel
theorem dX7_send_5 : decode cX7_send 5 = .ok (.invokevirtual 70, 3) := by decide +kernel
theorem dX7_send_8 : decode cX7_send 8 = .ok (.ifnonnull 6, 3) := by decide +kernel
theorem dX7_send_11 : decode cX7_send 11 = .ok (.ldc 74, 2) := by decide +kernel
theorem dX7_send_13 : decode cX7_send 13 = .ok (.ireturn, 1) := by decide +kernel
theorem dX7_send_14 : decode cX7_send 14 = .ok (.aload_n 0, 1) := by decide +kernel
theorem dX7_send_15 : decode cX7_send 15 = .ok (.getfield 10, 3) := by decide +kernel
theorem dX7_send_18 : decode cX7_send 18 = .ok (.invokevirtual 101, 3) := by decide +kernel
theorem dX7_send_21 : decode cX7_send 21 = .ok (.ifCond .eq 6, 3) := by decide +kernel
theorem dX7_send_24 : decode cX7_send 24 = .ok (.ldc 96, 2) := by decide +kernel
theorem dX7_send_26 : decode cX7_send 26 = .ok (.ireturn, 1) := by decide +kernel
theorem dX7_send_27 : decode cX7_send 27 = .ok (.aload_n 0, 1) := by decide +kernel
theorem dX7_send_28 : decode cX7_send 28 = .ok (.getfield 22, 3) := by decide +kernel
theorem dX7_send_31 : decode cX7_send 31 = .ok (.aload_n 0, 1) := by decide +kernel
theorem dX7_send_32 : decode cX7_send 32 = .ok (.getfield 10, 3) := by decide +kernel
theorem dX7_send_35 : decode cX7_send 35 = .ok (.invokevirtual 54, 3) := by decide +kernel
theorem dX7_send_38 : decode cX7_send 38 = .ok (.aload_n 0, 1) := by decide +kernel
theorem dX7_send_39 : decode cX7_send 39 = .ok (.getfield 10, 3) := by decide +kernel
theorem dX7_send_42 : decode cX7_send 42 = .ok (.iload_n 1, 1) := by decide +kernel
theorem dX7_send_43 : decode cX7_send 43 = .ok (.invokevirtual 105, 3) := by decide +kernel
theorem dX7_send_46 : decode cX7_send 46 = .ok (.ireturn, 1) := by decide +kernel
theorem dX7_lose_0 : decode cX7_lose 0 = .ok (.aload_n 0, 1) := by decide +kernel
theorem dX7_lose_1 : decode cX7_lose 1 = .ok (.getfield 10, 3) := by decide +kernel
theorem dX7_lose_4 : decode cX7_lose 4 = .ok (.iload_n 1, 1) := by decide +kernel
theorem dX7_lose_5 : decode cX7_lose 5 = .ok (.invokevirtual 109, 3) := by decide +kernel
theorem dX7_lose_8 : decode cX7_lose 8 = .ok (.astore_n 2, 1) := by decide +kernel
theorem dX7_lose_9 : decode cX7_lose 9 = .ok (.aload_n 2, 1) := by decide +kernel
theorem dX7_lose_10 : decode cX7_lose 10 = .ok (.ifnonnull 6, 3) := by decide +kernel
theorem dX7_lose_13 : decode cX7_lose 13 = .ok (.ldc 74, 2) := by decide +kernel
theorem dX7_lose_15 : decode cX7_lose 15 = .ok (.ireturn, 1) := by decide +kernel
theorem dX7_lose_16 : decode cX7_lose 16 = .ok (.aload_n 0, 1) := by decide +kernel
theorem dX7_lose_17 : decode cX7_lose 17 = .ok (.getfield 22, 3) := by decide +kernel
theorem dX7_lose_20 : decode cX7_lose 20 = .ok (.aload_n 0, 1) := by decide +kernel
theorem dX7_lose_21 : decode cX7_lose 21 = .ok (.getfield 10, 3) := by decide +kernel
theorem dX7_lose_24 : decode cX7_lose 24 = .ok (.invokevirtual 54, 3) := by decide +kernel
theorem dX7_lose_27 : decode cX7_lose 27 = .ok (.aload_n 2, 1) := by decide +kernel
theorem dX7_lose_28 : decode cX7_lose 28 = .ok (.getfield 113, 3) := by decide +kernel
theorem dX7_lose_31 : decode cX7_lose 31 = .ok (.istore_n 3, 1) := by decide +kernel
theorem dX7_lose_32 : decode cX7_lose 32 = .ok (.aload_n 0, 1) := by decide +kernel
theorem dX7_lose_33 : decode cX7_lose 33 = .ok (.getfield 10, 3) := by decide +kernel
theorem dX7_lose_36 : decode cX7_lose 36 = .ok (.aload_n 2, 1) := by decide +kernel
theorem dX7_lose_37 : decode cX7_lose 37 = .ok (.invokevirtual 118, 3) := by decide +kernel
theorem dX7_lose_40 : decode cX7_lose 40 = .ok (.aload_n 0, 1) := by decide +kernel
theorem dX7_lose_41 : decode cX7_lose 41 = .ok (.getfield 10, 3) := by decide +kernel
theorem dX7_lose_44 : decode cX7_lose 44 = .ok (.iload_n 1, 1) := by decide +kernel
theorem dX7_lose_45 : decode cX7_lose 45 = .ok (.invokevirtual 122, 3) := by decide +kernel
theorem dX7_lose_48 : decode cX7_lose 48 = .ok (.iload_n 3, 1) := by decide +kernel
theorem dX7_lose_49 : decode cX7_lose 49 = .ok (.ireturn, 1) := by decide +kernel
theorem dX7_twice_0 : decode cX7_twice 0 = .ok (.aload_n 0, 1) := by decide +kernel
theorem dX7_twice_1 : decode cX7_twice 1 = .ok (.getfield 10, 3) := by decide +kernel
theorem dX7_twice_4 : decode cX7_twice 4 = .ok (.iload_n 1, 1) := by decide +kernel
theorem dX7_twice_5 : decode cX7_twice 5 = .ok (.invokevirtual 109, 3) := by decide +kernel
theorem dX7_twice_8 : decode cX7_twice 8 = .ok (.astore_n 2, 1) := by decide +kernel
theorem dX7_twice_9 : decode cX7_twice 9 = .ok (.aload_n 2, 1) := by decide +kernel
theorem dX7_twice_10 : decode cX7_twice 10 = .ok (.ifnonnull 6, 3) := by decide +kernel
theorem dX7_twice_13 : decode cX7_twice 13 = .ok (.ldc 74, 2) := by decide +kernel
theorem dX7_twice_15 : decode cX7_twice 15 = .ok (.ireturn, 1) := by decide +kernel
theorem dX7_twice_16 : decode cX7_twice 16 = .ok (.aload_n 0, 1) := by decide +kernel
theorem dX7_twice_17 : decode cX7_twice 17 = .ok (.getfield 10, 3) := by decide +kernel
theorem dX7_twice_20 : decode cX7_twice 20 = .ok (.invokevirtual 101, 3) := by decide +kernel
theorem dX7_twice_23 : decode cX7_twice 23 = .ok (.ifCond .eq 6, 3) := by decide +kernel
theorem dX7_twice_26 : decode cX7_twice 26 = .ok (.ldc 96, 2) := by decide +kernel
theorem dX7_twice_28 : decode cX7_twice 28 = .ok (.ireturn, 1) := by decide +kernel
theorem dX7_twice_29 : decode cX7_twice 29 = .ok (.aload_n 0, 1) := by decide +kernel
theorem dX7_twice_30 : decode cX7_twice 30 = .ok (.getfield 22, 3) := by decide +kernel
theorem dX7_twice_33 : decode cX7_twice 33 = .ok (.aload_n 0, 1) := by decide +kernel
theorem dX7_twice_34 : decode cX7_twice 34 = .ok (.getfield 10, 3) := by decide +kernel
theorem dX7_twice_37 : decode cX7_twice 37 = .ok (.invokevirtual 54, 3) := by decide +kernel
theorem dX7_twice_40 : decode cX7_twice 40 = .ok (.aload_n 0, 1) := by decide +kernel
theorem dX7_twice_41 : decode cX7_twice 41 = .ok (.getfield 10, 3) := by decide +kernel
theorem dX7_twice_44 : decode cX7_twice 44 = .ok (.aload_n 2, 1) := by decide +kernel
theorem dX7_twice_45 : decode cX7_twice 45 = .ok (.invokevirtual 125, 3) := by decide +kernel
theorem dX7_twice_48 : decode cX7_twice 48 = .ok (.aload_n 0, 1) := by decide +kernel
theorem dX7_twice_49 : decode cX7_twice 49 = .ok (.getfield 10, 3) := by decide +kernel
theorem dX7_twice_52 : decode cX7_twice 52 = .ok (.getfield 128, 3) := by decide +kernel
theorem dX7_twice_55 : decode cX7_twice 55 = .ok (.ireturn, 1) := by decide +kernel
theorem dX7_gaugeOf_0 : decode cX7_gaugeOf 0 = .ok (.aload_n 0, 1) := by decide +kernel
theorem dX7_gaugeOf_1 : decode cX7_gaugeOf 1 = .ok (.getfield 10, 3) := by decide +kernel
theorem dX7_gaugeOf_4 : decode cX7_gaugeOf 4 = .ok (.iload_n 1, 1) := by decide +kernel
theorem dX7_gaugeOf_5 : decode cX7_gaugeOf 5 = .ok (.invokevirtual 70, 3) := by decide +kernel
theorem dX7_gaugeOf_8 : decode cX7_gaugeOf 8 = .ok (.astore_n 3, 1) := by decide +kernel
theorem dX7_gaugeOf_9 : decode cX7_gaugeOf 9 = .ok (.aload_n 3, 1) := by decide +kernel
theorem dX7_gaugeOf_10 : decode cX7_gaugeOf 10 = .ok (.ifnonnull 8, 3) := by decide +kernel
theorem dX7_gaugeOf_13 : decode cX7_gaugeOf 13 = .ok (.ldc 74, 2) := by decide +kernel
theorem dX7_gaugeOf_15 : decode cX7_gaugeOf 15 = .ok (.goto 12, 3) := by decide +kernel
theorem dX7_gaugeOf_18 : decode cX7_gaugeOf 18 = .ok (.aload_n 0, 1) := by decide +kernel
theorem dX7_gaugeOf_19 : decode cX7_gaugeOf 19 = .ok (.getfield 10, 3) := by decide +kernel
theorem dX7_gaugeOf_22 : decode cX7_gaugeOf 22 = .ok (.aload_n 3, 1) := by decide +kernel
theorem dX7_gaugeOf_23 : decode cX7_gaugeOf 23 = .ok (.iload_n 2, 1) := by decide +kernel
theorem dX7_gaugeOf_24 : decode cX7_gaugeOf 24 = .ok (.invokevirtual 152, 3) := by decide +kernel
theorem dX7_gaugeOf_27 : decode cX7_gaugeOf 27 = .ok (.ireturn, 1) := by decide +kernel
theorem dX7_ledger_0 : decode cX7_ledger 0 = .ok (.aload_n 0, 1) := by decide +kernel
theorem dX7_ledger_1 : decode cX7_ledger 1 = .ok (.getfield 10, 3) := by decide +kernel
theorem dX7_ledger_4 : decode cX7_ledger 4 = .ok (.iload_n 1, 1) := by decide +kernel
theorem dX7_ledger_5 : decode cX7_ledger 5 = .ok (.invokevirtual 70, 3) := by decide +kernel
theorem dX7_ledger_8 : decode cX7_ledger 8 = .ok (.astore_n 3, 1) := by decide +kernel
theorem dX7_ledger_9 : decode cX7_ledger 9 = .ok (.aload_n 3, 1) := by decide +kernel
theorem dX7_ledger_10 : decode cX7_ledger 10 = .ok (.ifnonnull 6, 3) := by decide +kernel
theorem dX7_ledger_13 : decode cX7_ledger 13 = .ok (.ldc 74, 2) := by decide +kernel
theorem dX7_ledger_15 : decode cX7_ledger 15 = .ok (.ireturn, 1) := by decide +kernel
theorem dX7_ledger_16 : decode cX7_ledger 16 = .ok (.aload_n 3, 1) := by decide +kernel
theorem dX7_ledger_17 : decode cX7_ledger 17 = .ok (.getfield 156, 3) := by decide +kernel
theorem dX7_ledger_20 : decode cX7_ledger 20 = .ok (.astore 4, 2) := by decide +kernel
theorem dX7_ledger_22 : decode cX7_ledger 22 = .ok (.iload_n 2, 1) := by decide +kernel
theorem dX7_ledger_23 : decode cX7_ledger 23 = .ok (.tableswitch 99 0 7 #[45, 51, 57, 70, 75, 81, 87, 93], 45) := by decide +kernel
theorem dX7_ledger_68 : decode cX7_ledger 68 = .ok (.aload 4, 2) := by decide +kernel
theorem dX7_ledger_70 : decode cX7_ledger 70 = .ok (.getfield 160, 3) := by decide +kernel
theorem dX7_ledger_73 : decode cX7_ledger 73 = .ok (.ireturn, 1) := by decide +kernel
theorem dX7_ledger_74 : decode cX7_ledger 74 = .ok (.aload 4, 2) := by decide +kernel
theorem dX7_ledger_76 : decode cX7_ledger 76 = .ok (.getfield 165, 3) := by decide +kernel
theorem dX7_ledger_79 : decode cX7_ledger 79 = .ok (.ireturn, 1) := by decide +kernel
theorem dX7_ledger_80 : decode cX7_ledger 80 = .ok (.aload_n 0, 1) := by decide +kernel
theorem dX7_ledger_81 : decode cX7_ledger 81 = .ok (.getfield 10, 3) := by decide +kernel
theorem dX7_ledger_84 : decode cX7_ledger 84 = .ok (.aload 4, 2) := by decide +kernel
theorem dX7_ledger_86 : decode cX7_ledger 86 = .ok (.getfield 168, 3) := by decide +kernel
theorem dX7_ledger_89 : decode cX7_ledger 89 = .ok (.invokevirtual 171, 3) := by decide +kernel
theorem dX7_ledger_92 : decode cX7_ledger 92 = .ok (.ireturn, 1) := by decide +kernel
theorem dX7_ledger_93 : decode cX7_ledger 93 = .ok (.aload_n 3, 1) := by decide +kernel
theorem dX7_ledger_94 : decode cX7_ledger 94 = .ok (.invokevirtual 174, 3) := by decide +kernel
theorem dX7_ledger_97 : decode cX7_ledger 97 = .ok (.ireturn, 1) := by decide +kernel
theorem dX7_ledger_98 : decode cX7_ledger 98 = .ok (.aload 4, 2) := by decide +kernel
theorem dX7_ledger_100 : decode cX7_ledger 100 = .ok (.getfield 177, 3) := by decide +kernel
theorem dX7_ledger_103 : decode cX7_ledger 103 = .ok (.ireturn, 1) := by decide +kernel
theorem dX7_ledger_104 : decode cX7_ledger 104 = .ok (.aload 4, 2) := by decide +kernel
theorem dX7_ledger_106 : decode cX7_ledger 106 = .ok (.getfield 180, 3) := by decide +kernel
theorem dX7_ledger_109 : decode cX7_ledger 109 = .ok (.ireturn, 1) := by decide +kernel
theorem dX7_ledger_110 : decode cX7_ledger 110 = .ok (.aload 4, 2) := by decide +kernel
theorem dX7_ledger_112 : decode cX7_ledger 112 = .ok (.getfield 183, 3) := by decide +kernel
theorem dX7_ledger_115 : decode cX7_ledger 115 = .ok (.ireturn, 1) := by decide +kernel
theorem dX7_ledger_116 : decode cX7_ledger 116 = .ok (.aload 4, 2) := by decide +kernel
theorem dX7_ledger_118 : decode cX7_ledger 118 = .ok (.getfield 186, 3) := by decide +kernel
theorem dX7_ledger_121 : decode cX7_ledger 121 = .ok (.ireturn, 1) := by decide +kernel
theorem dX7_ledger_122 : decode cX7_ledger 122 = .ok (.ldc 69, 2) := by decide +kernel
theorem dX7_ledger_124 : decode cX7_ledger 124 = .ok (.ireturn, 1) := by decide +kernel
theorem dX7_runner_0 : decode cX7_runner 0 = .ok (.aload_n 0, 1) := by decide +kernel
theorem dX7_runner_1 : decode cX7_runner 1 = .ok (.getfield 10, 3) := by decide +kernel
theorem dX7_runner_4 : decode cX7_runner 4 = .ok (.iload_n 1, 1) := by decide +kernel
theorem dX7_runner_5 : decode cX7_runner 5 = .ok (.invokevirtual 109, 3) := by decide +kernel
theorem dX7_runner_8 : decode cX7_runner 8 = .ok (.astore_n 3, 1) := by decide +kernel
theorem dX7_runner_9 : decode cX7_runner 9 = .ok (.aload_n 3, 1) := by decide +kernel
theorem dX7_runner_10 : decode cX7_runner 10 = .ok (.ifnonnull 6, 3) := by decide +kernel
theorem dX7_runner_13 : decode cX7_runner 13 = .ok (.ldc 74, 2) := by decide +kernel
theorem dX7_runner_15 : decode cX7_runner 15 = .ok (.ireturn, 1) := by decide +kernel
theorem dX7_runner_16 : decode cX7_runner 16 = .ok (.iload_n 2, 1) := by decide +kernel
theorem dX7_runner_17 : decode cX7_runner 17 = .ok (.tableswitch 58 0 3 #[31, 36, 48, 53], 31) := by decide +kernel
theorem dX7_runner_48 : decode cX7_runner 48 = .ok (.aload_n 3, 1) := by decide +kernel
theorem dX7_runner_49 : decode cX7_runner 49 = .ok (.getfield 113, 3) := by decide +kernel
theorem dX7_runner_52 : decode cX7_runner 52 = .ok (.ireturn, 1) := by decide +kernel
theorem dX7_runner_53 : decode cX7_runner 53 = .ok (.aload_n 0, 1) := by decide +kernel
theorem dX7_runner_54 : decode cX7_runner 54 = .ok (.getfield 10, 3) := by decide +kernel
theorem dX7_runner_57 : decode cX7_runner 57 = .ok (.aload_n 3, 1) := by decide +kernel
theorem dX7_runner_58 : decode cX7_runner 58 = .ok (.getfield 189, 3) := by decide +kernel
theorem dX7_runner_61 : decode cX7_runner 61 = .ok (.invokevirtual 171, 3) := by decide +kernel
theorem dX7_runner_64 : decode cX7_runner 64 = .ok (.ireturn, 1) := by decide +kernel
theorem dX7_runner_65 : decode cX7_runner 65 = .ok (.aload_n 3, 1) := by decide +kernel
theorem dX7_runner_66 : decode cX7_runner 66 = .ok (.getfield 192, 3) := by decide +kernel
theorem dX7_runner_69 : decode cX7_runner 69 = .ok (.ireturn, 1) := by decide +kernel
theorem dX7_runner_70 : decode cX7_runner 70 = .ok (.aload_n 3, 1) := by decide +kernel
theorem dX7_runner_71 : decode cX7_runner 71 = .ok (.getfield 195, 3) := by decide +kernel
theorem dX7_runner_74 : decode cX7_runner 74 = .ok (.ireturn, 1) := by decide +kernel
theorem dX7_runner_75 : decode cX7_runner 75 = .ok (.ldc 69, 2) := by decide +kernel
theorem dX7_runner_77 : decode cX7_runner 77 = .ok (.ireturn, 1) := by decide +kernel
theorem dX7_count_0 : decode cX7_count 0 = .ok (.iload_n 1, 1) := by decide +kernel
theorem dX7_count_1 : decode cX7_count 1 = .ok (.tableswitch 161 0 10 #[59, 67, 75, 83, 91, 101, 120, 129, 137, 145, 153], 59) := by decide +kernel
theorem dX7_count_60 : decode cX7_count 60 = .ok (.aload_n 0, 1) := by decide +kernel
theorem dX7_count_61 : decode cX7_count 61 = .ok (.getfield 10, 3) := by decide +kernel
theorem dX7_count_64 : decode cX7_count 64 = .ok (.getfield 58, 3) := by decide +kernel
theorem dX7_count_67 : decode cX7_count 67 = .ok (.ireturn, 1) := by decide +kernel
theorem dX7_count_68 : decode cX7_count 68 = .ok (.aload_n 0, 1) := by decide +kernel
theorem dX7_count_69 : decode cX7_count 69 = .ok (.getfield 10, 3) := by decide +kernel
theorem dX7_count_72 : decode cX7_count 72 = .ok (.getfield 66, 3) := by decide +kernel
theorem dX7_count_75 : decode cX7_count 75 = .ok (.ireturn, 1) := by decide +kernel
theorem dX7_count_76 : decode cX7_count 76 = .ok (.aload_n 0, 1) := by decide +kernel
theorem dX7_count_77 : decode cX7_count 77 = .ok (.getfield 10, 3) := by decide +kernel
theorem dX7_count_80 : decode cX7_count 80 = .ok (.getfield 198, 3) := by decide +kernel
theorem dX7_count_83 : decode cX7_count 83 = .ok (.ireturn, 1) := by decide +kernel
theorem dX7_count_84 : decode cX7_count 84 = .ok (.aload_n 0, 1) := by decide +kernel
theorem dX7_count_85 : decode cX7_count 85 = .ok (.getfield 10, 3) := by decide +kernel
theorem dX7_count_88 : decode cX7_count 88 = .ok (.getfield 128, 3) := by decide +kernel
theorem dX7_count_91 : decode cX7_count 91 = .ok (.ireturn, 1) := by decide +kernel
theorem dX7_count_92 : decode cX7_count 92 = .ok (.aload_n 0, 1) := by decide +kernel
theorem dX7_count_93 : decode cX7_count 93 = .ok (.getfield 10, 3) := by decide +kernel
theorem dX7_count_96 : decode cX7_count 96 = .ok (.bipush 7, 2) := by decide +kernel
theorem dX7_count_98 : decode cX7_count 98 = .ok (.invokevirtual 201, 3) := by decide +kernel
theorem dX7_count_101 : decode cX7_count 101 = .ok (.ireturn, 1) := by decide +kernel
theorem dX7_count_102 : decode cX7_count 102 = .ok (.aload_n 0, 1) := by decide +kernel
theorem dX7_count_103 : decode cX7_count 103 = .ok (.getfield 10, 3) := by decide +kernel
theorem dX7_count_106 : decode cX7_count 106 = .ok (.bipush 8, 2) := by decide +kernel
theorem dX7_count_108 : decode cX7_count 108 = .ok (.invokevirtual 201, 3) := by decide +kernel
theorem dX7_count_111 : decode cX7_count 111 = .ok (.aload_n 0, 1) := by decide +kernel
theorem dX7_count_112 : decode cX7_count 112 = .ok (.getfield 10, 3) := by decide +kernel
theorem dX7_count_115 : decode cX7_count 115 = .ok (.iconst 4, 1) := by decide +kernel
theorem dX7_count_116 : decode cX7_count 116 = .ok (.invokevirtual 201, 3) := by decide +kernel
theorem dX7_count_119 : decode cX7_count 119 = .ok (.iadd, 1) := by decide +kernel
theorem dX7_count_120 : decode cX7_count 120 = .ok (.ireturn, 1) := by decide +kernel
theorem dX7_count_121 : decode cX7_count 121 = .ok (.aload_n 0, 1) := by decide +kernel
theorem dX7_count_122 : decode cX7_count 122 = .ok (.getfield 10, 3) := by decide +kernel
theorem dX7_count_125 : decode cX7_count 125 = .ok (.iconst 5, 1) := by decide +kernel
theorem dX7_count_126 : decode cX7_count 126 = .ok (.invokevirtual 201, 3) := by decide +kernel
theorem dX7_count_129 : decode cX7_count 129 = .ok (.ireturn, 1) := by decide +kernel
theorem dX7_count_130 : decode cX7_count 130 = .ok (.aload_n 0, 1) := by decide +kernel
theorem dX7_count_131 : decode cX7_count 131 = .ok (.getfield 10, 3) := by decide +kernel
theorem dX7_count_134 : decode cX7_count 134 = .ok (.invokevirtual 204, 3) := by decide +kernel
theorem dX7_count_137 : decode cX7_count 137 = .ok (.ireturn, 1) := by decide +kernel
theorem dX7_count_138 : decode cX7_count 138 = .ok (.aload_n 0, 1) := by decide +kernel
theorem dX7_count_139 : decode cX7_count 139 = .ok (.getfield 10, 3) := by decide +kernel
theorem dX7_count_142 : decode cX7_count 142 = .ok (.invokevirtual 207, 3) := by decide +kernel
theorem dX7_count_145 : decode cX7_count 145 = .ok (.ireturn, 1) := by decide +kernel
theorem dX7_count_146 : decode cX7_count 146 = .ok (.aload_n 0, 1) := by decide +kernel
theorem dX7_count_147 : decode cX7_count 147 = .ok (.getfield 37, 3) := by decide +kernel
theorem dX7_count_150 : decode cX7_count 150 = .ok (.getfield 149, 3) := by decide +kernel
theorem dX7_count_153 : decode cX7_count 153 = .ok (.ireturn, 1) := by decide +kernel
theorem dX7_count_154 : decode cX7_count 154 = .ok (.aload_n 0, 1) := by decide +kernel
theorem dX7_count_155 : decode cX7_count 155 = .ok (.getfield 22, 3) := by decide +kernel
theorem dX7_count_158 : decode cX7_count 158 = .ok (.getfield 210, 3) := by decide +kernel
theorem dX7_count_161 : decode cX7_count 161 = .ok (.ireturn, 1) := by decide +kernel
theorem dX7_count_162 : decode cX7_count 162 = .ok (.ldc 69, 2) := by decide +kernel
theorem dX7_count_164 : decode cX7_count 164 = .ok (.ireturn, 1) := by decide +kernel
theorem dX7_untilRound_0 : decode cX7_untilRound 0 = .ok (.aload_n 0, 1) := by decide +kernel
theorem dX7_untilRound_1 : decode cX7_untilRound 1 = .ok (.getfield 16, 3) := by decide +kernel
theorem dX7_untilRound_4 : decode cX7_untilRound 4 = .ok (.aload_n 0, 1) := by decide +kernel
theorem dX7_untilRound_5 : decode cX7_untilRound 5 = .ok (.getfield 10, 3) := by decide +kernel
theorem dX7_untilRound_8 : decode cX7_untilRound 8 = .ok (.invokevirtual 213, 3) := by decide +kernel
theorem dX7_untilRound_11 : decode cX7_untilRound 11 = .ok (.aload_n 0, 1) := by decide +kernel
theorem dX7_untilRound_12 : decode cX7_untilRound 12 = .ok (.getfield 16, 3) := by decide +kernel
theorem dX7_untilRound_15 : decode cX7_untilRound 15 = .ok (.iload_n 1, 1) := by decide +kernel
theorem dX7_untilRound_16 : decode cX7_untilRound 16 = .ok (.invokevirtual 70, 3) := by decide +kernel
theorem dX7_untilRound_19 : decode cX7_untilRound 19 = .ok (.astore_n 3, 1) := by decide +kernel
theorem dX7_untilRound_20 : decode cX7_untilRound 20 = .ok (.aload_n 3, 1) := by decide +kernel
theorem dX7_untilRound_21 : decode cX7_untilRound 21 = .ok (.ifnonnull 6, 3) := by decide +kernel
theorem dX7_untilRound_24 : decode cX7_untilRound 24 = .ok (.ldc 74, 2) := by decide +kernel
theorem dX7_untilRound_26 : decode cX7_untilRound 26 = .ok (.ireturn, 1) := by decide +kernel
theorem dX7_untilRound_27 : decode cX7_untilRound 27 = .ok (.iload_n 2, 1) := by decide +kernel
theorem dX7_untilRound_28 : decode cX7_untilRound 28 = .ok (.iconst 0, 1) := by decide +kernel
theorem dX7_untilRound_29 : decode cX7_untilRound 29 = .ok (.bipush 99, 2) := by decide +kernel
theorem dX7_untilRound_31 : decode cX7_untilRound 31 = .ok (.invokestatic 50, 3) := by decide +kernel
theorem dX7_untilRound_34 : decode cX7_untilRound 34 = .ok (.ifCond .ne 6, 3) := by decide +kernel
theorem dX7_untilRound_37 : decode cX7_untilRound 37 = .ok (.ldc 69, 2) := by decide +kernel
theorem dX7_untilRound_39 : decode cX7_untilRound 39 = .ok (.ireturn, 1) := by decide +kernel
theorem dX7_untilRound_40 : decode cX7_untilRound 40 = .ok (.iconst 0, 1) := by decide +kernel
theorem dX7_untilRound_41 : decode cX7_untilRound 41 = .ok (.istore 4, 2) := by decide +kernel
theorem dX7_untilRound_43 : decode cX7_untilRound 43 = .ok (.iload 4, 2) := by decide +kernel
theorem dX7_untilRound_45 : decode cX7_untilRound 45 = .ok (.sipush 500, 3) := by decide +kernel
theorem dX7_untilRound_48 : decode cX7_untilRound 48 = .ok (.if_icmp .gt 32, 3) := by decide +kernel
theorem dX7_untilRound_51 : decode cX7_untilRound 51 = .ok (.aload_n 3, 1) := by decide +kernel
theorem dX7_untilRound_52 : decode cX7_untilRound 52 = .ok (.invokevirtual 216, 3) := by decide +kernel
theorem dX7_untilRound_55 : decode cX7_untilRound 55 = .ok (.aload_n 0, 1) := by decide +kernel
theorem dX7_untilRound_56 : decode cX7_untilRound 56 = .ok (.getfield 16, 3) := by decide +kernel
theorem dX7_untilRound_59 : decode cX7_untilRound 59 = .ok (.getfield 58, 3) := by decide +kernel
theorem dX7_untilRound_62 : decode cX7_untilRound 62 = .ok (.if_icmp .lt 6, 3) := by decide +kernel
theorem dX7_untilRound_65 : decode cX7_untilRound 65 = .ok (.iload 4, 2) := by decide +kernel
theorem dX7_untilRound_67 : decode cX7_untilRound 67 = .ok (.ireturn, 1) := by decide +kernel
theorem dX7_untilRound_68 : decode cX7_untilRound 68 = .ok (.aload_n 3, 1) := by decide +kernel
theorem dX7_untilRound_69 : decode cX7_untilRound 69 = .ok (.iload_n 2, 1) := by decide +kernel
theorem dX7_untilRound_70 : decode cX7_untilRound 70 = .ok (.invokevirtual 219, 3) := by decide +kernel
theorem dX7_untilRound_73 : decode cX7_untilRound 73 = .ok (.pop, 1) := by decide +kernel
theorem dX7_untilRound_74 : decode cX7_untilRound 74 = .ok (.iinc 4 1, 3) := by decide +kernel
theorem dX7_untilRound_77 : decode cX7_untilRound 77 = .ok (.goto (-34), 3) := by decide +kernel
theorem dX7_untilRound_80 : decode cX7_untilRound 80 = .ok (.ldc 135, 2) := by decide +kernel
theorem dX7_untilRound_82 : decode cX7_untilRound 82 = .ok (.ireturn, 1) := by decide +kernel
theorem dX7_ifSent_0 : decode cX7_ifSent 0 = .ok (.aload_n 0, 1) := by decide +kernel
theorem dX7_ifSent_1 : decode cX7_ifSent 1 = .ok (.getfield 16, 3) := by decide +kernel
theorem dX7_ifSent_4 : decode cX7_ifSent 4 = .ok (.aload_n 0, 1) := by decide +kernel
theorem dX7_ifSent_5 : decode cX7_ifSent 5 = .ok (.getfield 10, 3) := by decide +kernel
theorem dX7_ifSent_8 : decode cX7_ifSent 8 = .ok (.invokevirtual 213, 3) := by decide +kernel
theorem dX7_ifSent_11 : decode cX7_ifSent 11 = .ok (.aload_n 0, 1) := by decide +kernel
theorem dX7_ifSent_12 : decode cX7_ifSent 12 = .ok (.getfield 16, 3) := by decide +kernel
theorem dX7_ifSent_15 : decode cX7_ifSent 15 = .ok (.iload_n 1, 1) := by decide +kernel
theorem dX7_ifSent_16 : decode cX7_ifSent 16 = .ok (.invokevirtual 70, 3) := by decide +kernel
theorem dX7_ifSent_19 : decode cX7_ifSent 19 = .ok (.astore_n 2, 1) := by decide +kernel
theorem dX7_ifSent_20 : decode cX7_ifSent 20 = .ok (.aload_n 2, 1) := by decide +kernel
theorem dX7_ifSent_21 : decode cX7_ifSent 21 = .ok (.ifnonnull 6, 3) := by decide +kernel
theorem dX7_ifSent_24 : decode cX7_ifSent 24 = .ok (.ldc 74, 2) := by decide +kernel
theorem dX7_ifSent_26 : decode cX7_ifSent 26 = .ok (.ireturn, 1) := by decide +kernel
theorem dX7_ifSent_27 : decode cX7_ifSent 27 = .ok (.aload_n 0, 1) := by decide +kernel
theorem dX7_ifSent_28 : decode cX7_ifSent 28 = .ok (.getfield 16, 3) := by decide +kernel
theorem dX7_ifSent_31 : decode cX7_ifSent 31 = .ok (.iconst 0, 1) := by decide +kernel
theorem dX7_ifSent_32 : decode cX7_ifSent 32 = .ok (.putfield 128, 3) := by decide +kernel
theorem dX7_ifSent_35 : decode cX7_ifSent 35 = .ok (.aload_n 2, 1) := by decide +kernel
theorem dX7_ifSent_36 : decode cX7_ifSent 36 = .ok (.iconst 0, 1) := by decide +kernel
theorem dX7_ifSent_37 : decode cX7_ifSent 37 = .ok (.putfield 86, 3) := by decide +kernel
theorem dX7_ifSent_40 : decode cX7_ifSent 40 = .ok (.aload_n 0, 1) := by decide +kernel
theorem dX7_ifSent_41 : decode cX7_ifSent 41 = .ok (.getfield 16, 3) := by decide +kernel
theorem dX7_ifSent_44 : decode cX7_ifSent 44 = .ok (.iload_n 1, 1) := by decide +kernel
theorem dX7_ifSent_45 : decode cX7_ifSent 45 = .ok (.invokevirtual 105, 3) := by decide +kernel
theorem dX7_ifSent_48 : decode cX7_ifSent 48 = .ok (.pop, 1) := by decide +kernel
theorem dX7_ifSent_49 : decode cX7_ifSent 49 = .ok (.aload_n 2, 1) := by decide +kernel
theorem dX7_ifSent_50 : decode cX7_ifSent 50 = .ok (.invokevirtual 174, 3) := by decide +kernel
theorem dX7_ifSent_53 : decode cX7_ifSent 53 = .ok (.ireturn, 1) := by decide +kernel
theorem dX7_ifAllCome_0 : decode cX7_ifAllCome 0 = .ok (.aload_n 0, 1) := by decide +kernel
theorem dX7_ifAllCome_1 : decode cX7_ifAllCome 1 = .ok (.getfield 16, 3) := by decide +kernel
theorem dX7_ifAllCome_4 : decode cX7_ifAllCome 4 = .ok (.aload_n 0, 1) := by decide +kernel
theorem dX7_ifAllCome_5 : decode cX7_ifAllCome 5 = .ok (.getfield 10, 3) := by decide +kernel
theorem dX7_ifAllCome_8 : decode cX7_ifAllCome 8 = .ok (.invokevirtual 213, 3) := by decide +kernel
theorem dX7_ifAllCome_11 : decode cX7_ifAllCome 11 = .ok (.aload_n 0, 1) := by decide +kernel
theorem dX7_ifAllCome_12 : decode cX7_ifAllCome 12 = .ok (.getfield 16, 3) := by decide +kernel
theorem dX7_ifAllCome_15 : decode cX7_ifAllCome 15 = .ok (.iload_n 1, 1) := by decide +kernel
theorem dX7_ifAllCome_16 : decode cX7_ifAllCome 16 = .ok (.invokevirtual 70, 3) := by decide +kernel
theorem dX7_ifAllCome_19 : decode cX7_ifAllCome 19 = .ok (.astore_n 2, 1) := by decide +kernel
theorem dX7_ifAllCome_20 : decode cX7_ifAllCome 20 = .ok (.aload_n 2, 1) := by decide +kernel
theorem dX7_ifAllCome_21 : decode cX7_ifAllCome 21 = .ok (.ifnonnull 6, 3) := by decide +kernel
theorem dX7_ifAllCome_24 : decode cX7_ifAllCome 24 = .ok (.ldc 74, 2) := by decide +kernel
theorem dX7_ifAllCome_26 : decode cX7_ifAllCome 26 = .ok (.ireturn, 1) := by decide +kernel
theorem dX7_ifAllCome_27 : decode cX7_ifAllCome 27 = .ok (.aload_n 0, 1) := by decide +kernel
theorem dX7_ifAllCome_28 : decode cX7_ifAllCome 28 = .ok (.getfield 16, 3) := by decide +kernel
theorem dX7_ifAllCome_31 : decode cX7_ifAllCome 31 = .ok (.iconst 0, 1) := by decide +kernel
theorem dX7_ifAllCome_32 : decode cX7_ifAllCome 32 = .ok (.aload_n 0, 1) := by decide +kernel
theorem dX7_ifAllCome_33 : decode cX7_ifAllCome 33 = .ok (.getfield 16, 3) := by decide +kernel
theorem dX7_ifAllCome_36 : decode cX7_ifAllCome 36 = .ok (.invokevirtual 222, 3) := by decide +kernel
theorem dX7_ifAllCome_39 : decode cX7_ifAllCome 39 = .ok (.invokevirtual 97, 3) := by decide +kernel
theorem dX7_ifAllCome_42 : decode cX7_ifAllCome 42 = .ok (.pop, 1) := by decide +kernel
theorem dX7_ifAllCome_43 : decode cX7_ifAllCome 43 = .ok (.aload_n 2, 1) := by decide +kernel
theorem dX7_ifAllCome_44 : decode cX7_ifAllCome 44 = .ok (.invokevirtual 174, 3) := by decide +kernel
theorem dX7_ifAllCome_47 : decode cX7_ifAllCome 47 = .ok (.ireturn, 1) := by decide +kernel
theorem dX7_mostUntold_0 : decode cX7_mostUntold 0 = .ok (.iconst 0, 1) := by decide +kernel
theorem dX7_mostUntold_1 : decode cX7_mostUntold 1 = .ok (.istore_n 1, 1) := by decide +kernel
theorem dX7_mostUntold_2 : decode cX7_mostUntold 2 = .ok (.ldc 135, 2) := by decide +kernel
theorem dX7_mostUntold_4 : decode cX7_mostUntold 4 = .ok (.istore_n 2, 1) := by decide +kernel
theorem dX7_mostUntold_5 : decode cX7_mostUntold 5 = .ok (.iconst 0, 1) := by decide +kernel
theorem dX7_mostUntold_6 : decode cX7_mostUntold 6 = .ok (.istore_n 3, 1) := by decide +kernel
theorem dX7_mostUntold_7 : decode cX7_mostUntold 7 = .ok (.iload_n 3, 1) := by decide +kernel
theorem dX7_mostUntold_8 : decode cX7_mostUntold 8 = .ok (.bipush 6, 2) := by decide +kernel
theorem dX7_mostUntold_10 : decode cX7_mostUntold 10 = .ok (.if_icmp .ge 34, 3) := by decide +kernel
theorem dX7_mostUntold_13 : decode cX7_mostUntold 13 = .ok (.aload_n 0, 1) := by decide +kernel
theorem dX7_mostUntold_14 : decode cX7_mostUntold 14 = .ok (.getfield 10, 3) := by decide +kernel
theorem dX7_mostUntold_17 : decode cX7_mostUntold 17 = .ok (.getfield 225, 3) := by decide +kernel
theorem dX7_mostUntold_20 : decode cX7_mostUntold 20 = .ok (.iload_n 3, 1) := by decide +kernel
theorem dX7_mostUntold_21 : decode cX7_mostUntold 21 = .ok (.aaload, 1) := by decide +kernel
theorem dX7_mostUntold_22 : decode cX7_mostUntold 22 = .ok (.invokevirtual 216, 3) := by decide +kernel
theorem dX7_mostUntold_25 : decode cX7_mostUntold 25 = .ok (.istore 4, 2) := by decide +kernel
theorem dX7_mostUntold_27 : decode cX7_mostUntold 27 = .ok (.iload 4, 2) := by decide +kernel
theorem dX7_mostUntold_29 : decode cX7_mostUntold 29 = .ok (.iload_n 1, 1) := by decide +kernel
theorem dX7_mostUntold_30 : decode cX7_mostUntold 30 = .ok (.if_icmp .le 8, 3) := by decide +kernel
theorem dX7_mostUntold_33 : decode cX7_mostUntold 33 = .ok (.iload 4, 2) := by decide +kernel
theorem dX7_mostUntold_35 : decode cX7_mostUntold 35 = .ok (.istore_n 1, 1) := by decide +kernel
theorem dX7_mostUntold_36 : decode cX7_mostUntold 36 = .ok (.iload_n 3, 1) := by decide +kernel
theorem dX7_mostUntold_37 : decode cX7_mostUntold 37 = .ok (.istore_n 2, 1) := by decide +kernel
theorem dX7_mostUntold_38 : decode cX7_mostUntold 38 = .ok (.iinc 3 1, 3) := by decide +kernel
theorem dX7_mostUntold_41 : decode cX7_mostUntold 41 = .ok (.goto (-34), 3) := by decide +kernel
theorem dX7_mostUntold_44 : decode cX7_mostUntold 44 = .ok (.iload_n 2, 1) := by decide +kernel
theorem dX7_mostUntold_45 : decode cX7_mostUntold 45 = .ok (.ireturn, 1) := by decide +kernel
theorem dX7_undo_0 : decode cX7_undo 0 = .ok (.aload_n 0, 1) := by decide +kernel
theorem dX7_undo_1 : decode cX7_undo 1 = .ok (.getfield 22, 3) := by decide +kernel
theorem dX7_undo_4 : decode cX7_undo 4 = .ok (.aload_n 0, 1) := by decide +kernel
theorem dX7_undo_5 : decode cX7_undo 5 = .ok (.getfield 10, 3) := by decide +kernel
theorem dX7_undo_8 : decode cX7_undo 8 = .ok (.invokevirtual 241, 3) := by decide +kernel
theorem dX7_undo_11 : decode cX7_undo 11 = .ok (.ifCond .eq 13, 3) := by decide +kernel
theorem dX7_undo_14 : decode cX7_undo 14 = .ok (.aload_n 0, 1) := by decide +kernel
theorem dX7_undo_15 : decode cX7_undo 15 = .ok (.getfield 22, 3) := by decide +kernel
theorem dX7_undo_18 : decode cX7_undo 18 = .ok (.getfield 210, 3) := by decide +kernel
theorem dX7_undo_21 : decode cX7_undo 21 = .ok (.goto 5, 3) := by decide +kernel
theorem dX7_undo_24 : decode cX7_undo 24 = .ok (.ldc 245, 2) := by decide +kernel
theorem dX7_undo_26 : decode cX7_undo 26 = .ok (.ireturn, 1) := by decide +kernel
theorem dX7_within_0 : decode cX7_within 0 = .ok (.iload_n 0, 1) := by decide +kernel
theorem dX7_within_1 : decode cX7_within 1 = .ok (.iload_n 1, 1) := by decide +kernel
theorem dX7_within_2 : decode cX7_within 2 = .ok (.if_icmp .lt 12, 3) := by decide +kernel
theorem dX7_within_5 : decode cX7_within 5 = .ok (.iload_n 0, 1) := by decide +kernel
theorem dX7_within_6 : decode cX7_within 6 = .ok (.iload_n 2, 1) := by decide +kernel
theorem dX7_within_7 : decode cX7_within 7 = .ok (.if_icmp .gt 7, 3) := by decide +kernel
theorem dX7_within_10 : decode cX7_within 10 = .ok (.iconst 1, 1) := by decide +kernel
theorem dX7_within_11 : decode cX7_within 11 = .ok (.goto 4, 3) := by decide +kernel
theorem dX7_within_14 : decode cX7_within 14 = .ok (.iconst 0, 1) := by decide +kernel
theorem dX7_within_15 : decode cX7_within 15 = .ok (.ireturn, 1) := by decide +kernel
/-! THE PAD AND ITS READER: three cells in a row: the pad a, its signs a+1, the reader a+2 (at, kind, amount, hours, gauge) -/
def RepT (g : GG) (A : Nat → Prop) (M : MM) (a : Nat) (f : Nat → Int32) (len : Int32) (rs : Nat → Int32) : Prop :=
  A a ∧ A (a + 1) ∧ A (a + 2) ∧ M a = .inr (3, [.ref (a + 1), .int len]) ∧ M (a + 1) = .inl (g.2 0, 60, .inl f) ∧ M (a + 2) = .inr (2, [.ref a, .int (rs 0), .int (rs 1), .int (rs 2), .int (rs 3), .int (rs 4)])
def FrT (a : Nat) (M0 M : MM) : Prop := ∀ q, ¬ (a ≤ q ∧ q < a + 3) → M q = M0 q
theorem FrT.rf {a : Nat} {M : MM} : FrT a M M := fun _ _ => rfl
theorem FrT.tr {a : Nat} {M0 M1 M2 : MM} (h1 : FrT a M0 M1) (h2 : FrT a M1 M2) : FrT a M0 M2 := fun q h => (h2 q h).trans (h1 q h)
theorem FrT.up {a : Nat} {M0 M : MM} (hF : FrT a M0 M) {q : Nat} {e : va_E} (h1 : a ≤ q) (h2 : q < a + 3) : FrT a M0 (va_up M q e) := fun z h => by
  rw [va_up_ne _ _ (by omega)]
  exact hF z h
theorem RepT.agr {g : GG} {A : Nat → Prop} {M M1 : MM} {a : Nat} {f : Nat → Int32} {len : Int32} {rs : Nat → Int32} (h : RepT g A M a f len rs) (ha : ∀ q, a ≤ q → q < a + 3 → M1 q = M q) : RepT g A M1 a f len rs := by
  obtain ⟨h1, h2, h3, h4, h5, h6⟩ := h
  exact ⟨h1, h2, h3, by rw [ha _ (by omega) (by omega)]; exact h4, by rw [ha _ (by omega) (by omega)]; exact h5, by rw [ha _ (by omega) (by omega)]; exact h6⟩
theorem RepT.eqr {g : GG} {A : Nat → Prop} {M : MM} {a : Nat} {f : Nat → Int32} {len : Int32} {rs rs1 : Nat → Int32} (h : RepT g A M a f len rs) (e : rs1 = rs) : RepT g A M a f len rs1 := by rw [e]; exact h
theorem RepT.eql {g : GG} {A : Nat → Prop} {M : MM} {a : Nat} {f f1 : Nat → Int32} {len len1 : Int32} {rs : Nat → Int32} (h : RepT g A M a f len rs) (e : len1 = len) (e2 : f1 = f) : RepT g A M a f1 len1 rs := by rw [e, e2]; exact h
section TROWS
variable {p : Program} {l : Launch} {e : Env} {R : Room} {s : State} {m : MethodId} {args : Array Value} {below : List Frame} {meth : Method} {c : Code} {H H0 : Heap} {locs : List Loc} {cells slots : Nat} {Q : State → Prop} {cc : ByteArray} {pc : Nat} {ls : Array Slot} {rest : List Value} {g : GG} {A : Nat → Prop} {M M0 : MM} {own : String} {index : Nat} {Ts : List Cond} {a : Nat} {f : Nat → Int32} {len : Int32} {rs : Nat → Int32}
theorem rt_getPs (hx : p.tables.exec = Jvm.exec) (hb : c.code = cc) (hts : ∀ w ∈ Ts, w.before args s = true) (hin : ∀ w ∈ u_ws RX3 TX3 2, w ∈ Ts) (hown : s.vm.findClass own = some m.cls) (hK : KK g s) (hM : HD g A M H) (hR : RepT g A M a f len rs) (hlink : (Cond.fieldLink own index (TX3 0).1 (TX3 0).2.1 (TX3 0).2.2.1).before args s = true) (hdg : decode cc pc = .ok (.getfield index, 3)) (kk : W p l e R s m args below meth c H locs cells slots Q (F0 m (pc + 3) ls (.ref (a + 1) :: rest))) : W p l e R s m args below meth c H locs cells slots Q (F0 m (pc) ls (.ref (a) :: rest)) :=
  m_get (ci := 3) (C := RX3) (T := TX3) (N := 2) hx hb hts hin hown hK hM hR.1 hR.2.2.2.1 rfl 0 (by decide) hlink rfl hdg kk
theorem rt_getPl (hx : p.tables.exec = Jvm.exec) (hb : c.code = cc) (hts : ∀ w ∈ Ts, w.before args s = true) (hin : ∀ w ∈ u_ws RX3 TX3 2, w ∈ Ts) (hown : s.vm.findClass own = some m.cls) (hK : KK g s) (hM : HD g A M H) (hR : RepT g A M a f len rs) (hlink : (Cond.fieldLink own index (TX3 1).1 (TX3 1).2.1 (TX3 1).2.2.1).before args s = true) (hdg : decode cc pc = .ok (.getfield index, 3)) (kk : W p l e R s m args below meth c H locs cells slots Q (F0 m (pc + 3) ls (.int len :: rest))) : W p l e R s m args below meth c H locs cells slots Q (F0 m (pc) ls (.ref (a) :: rest)) :=
  m_get (ci := 3) (C := RX3) (T := TX3) (N := 2) hx hb hts hin hown hK hM hR.1 hR.2.2.2.1 rfl 1 (by decide) hlink rfl hdg kk
theorem rt_getDp (hx : p.tables.exec = Jvm.exec) (hb : c.code = cc) (hts : ∀ w ∈ Ts, w.before args s = true) (hin : ∀ w ∈ u_ws RX2 TX2 6, w ∈ Ts) (hown : s.vm.findClass own = some m.cls) (hK : KK g s) (hM : HD g A M H) (hR : RepT g A M a f len rs) (hlink : (Cond.fieldLink own index (TX2 0).1 (TX2 0).2.1 (TX2 0).2.2.1).before args s = true) (hdg : decode cc pc = .ok (.getfield index, 3)) (kk : W p l e R s m args below meth c H locs cells slots Q (F0 m (pc + 3) ls (.ref a :: rest))) : W p l e R s m args below meth c H locs cells slots Q (F0 m (pc) ls (.ref (a + 2) :: rest)) :=
  m_get (ci := 2) (C := RX2) (T := TX2) (N := 6) hx hb hts hin hown hK hM hR.2.2.1 hR.2.2.2.2.2 rfl 0 (by decide) hlink rfl hdg kk
theorem rt_getD (hx : p.tables.exec = Jvm.exec) (hb : c.code = cc) (hts : ∀ w ∈ Ts, w.before args s = true) (hin : ∀ w ∈ u_ws RX2 TX2 6, w ∈ Ts) (hown : s.vm.findClass own = some m.cls) (hK : KK g s) (hM : HD g A M H) (hR : RepT g A M a f len rs) (k : Nat) (hk : k < 5) (hlink : (Cond.fieldLink own index (TX2 (k + 1)).1 (TX2 (k + 1)).2.1 (TX2 (k + 1)).2.2.1).before args s = true) (hdg : decode cc pc = .ok (.getfield index, 3)) (kk : W p l e R s m args below meth c H locs cells slots Q (F0 m (pc + 3) ls (.int (rs k) :: rest))) : W p l e R s m args below meth c H locs cells slots Q (F0 m (pc) ls (.ref (a + 2) :: rest)) :=
  m_get (ci := 2) (C := RX2) (T := TX2) (N := 6) hx hb hts hin hown hK hM hR.2.2.1 hR.2.2.2.2.2 rfl (k + 1) (by omega) hlink (by match k, hk with
    | 0, _ => rfl
    | 1, _ => rfl
    | 2, _ => rfl
    | 3, _ => rfl
    | 4, _ => rfl) hdg kk
theorem rt_putD (hx : p.tables.exec = Jvm.exec) (hb : c.code = cc) (hts : ∀ w ∈ Ts, w.before args s = true) (hin : ∀ w ∈ u_ws RX2 TX2 6, w ∈ Ts) (hown : s.vm.findClass own = some m.cls) (hK : KK g s) (hM : HD g A M H) (hS : va_S A H0 H locs) (hR : RepT g A M a f len rs) (hF : FrT a M0 M) (k : Nat) (hk : k < 5) (hk1 : k ≠ 1) (hlink : (Cond.fieldLink own index (TX2 (k + 1)).1 (TX2 (k + 1)).2.1 (TX2 (k + 1)).2.2.1).before args s = true) {x : Int32} (hdg : decode cc pc = .ok (.putfield index, 3)) (kk : ∀ (M1 : MM) (H1 : Heap) (locs1 : List Loc), HD g A M1 H1 → RepT g A M1 a f len (va_up rs k x) → FrT a M0 M1 → va_S A H0 H1 locs1 → W p l e R s m args below meth c H1 locs1 cells slots Q (F0 m (pc + 3) ls rest)) : W p l e R s m args below meth c H locs cells slots Q (F0 m (pc) ls (.int x :: .ref (a + 2) :: rest)) := by
  have e1 : (TX2 (k + 1)).2.2.2 = false ∧ tyX2 (k + 1) = .int := by
    match k, hk, hk1 with
    | 0, _, _ => exact ⟨rfl, rfl⟩
    | 2, _, _ => exact ⟨rfl, rfl⟩
    | 3, _, _ => exact ⟨rfl, rfl⟩
    | 4, _, _ => exact ⟨rfl, rfl⟩
  refine m_put (ci := 2) (C := RX2) (T := TX2) (N := 6) hx hb hts hin tyX2 tyX2_ok nmX2 hown hK hM hS hR.2.2.1 hR.2.2.2.2.2 rfl (k + 1) (by omega) hlink e1.1 (by rw [e1.2]; rfl) (by rw [e1.2]; rfl) (by simp; omega) hdg (fun H1 locs1 hM1 hS1 => ?_)
  have e2 : (Sum.inr (2, ([.ref a, .int (rs 0), .int (rs 1), .int (rs 2), .int (rs 3), .int (rs 4)] : List Value).set (k + 1) (.int x)) : va_E) = .inr (2, [.ref a, .int (va_up rs k x 0), .int (va_up rs k x 1), .int (va_up rs k x 2), .int (va_up rs k x 3), .int (va_up rs k x 4)]) := by
    match k, hk with
    | 0, _ => rfl
    | 1, _ => rfl
    | 2, _ => rfl
    | 3, _ => rfl
    | 4, _ => rfl
  rw [e2] at hM1
  obtain ⟨h1, h2, h3, h4, h5, h6⟩ := hR
  exact kk _ H1 locs1 hM1 ⟨h1, h2, h3, by rw [va_up_ne _ _ (by omega)]; exact h4, by rw [va_up_ne _ _ (by omega)]; exact h5, va_up_self _ _ _⟩ (hF.up (by omega) (by omega)) hS1
theorem rt_putDk (hx : p.tables.exec = Jvm.exec) (hb : c.code = cc) (hts : ∀ w ∈ Ts, w.before args s = true) (hin : ∀ w ∈ u_ws RX2 TX2 6, w ∈ Ts) (hown : s.vm.findClass own = some m.cls) (hK : KK g s) (hM : HD g A M H) (hS : va_S A H0 H locs) (hR : RepT g A M a f len rs) (hF : FrT a M0 M) (hlink : (Cond.fieldLink own index (TX2 2).1 (TX2 2).2.1 (TX2 2).2.2.1).before args s = true) {x : Int32} (hch : narrow .char (.int x) = .int x ∧ fits .char (.int x) = true) (hdg : decode cc pc = .ok (.putfield index, 3)) (kk : ∀ (M1 : MM) (H1 : Heap) (locs1 : List Loc), HD g A M1 H1 → RepT g A M1 a f len (va_up rs 1 x) → FrT a M0 M1 → va_S A H0 H1 locs1 → W p l e R s m args below meth c H1 locs1 cells slots Q (F0 m (pc + 3) ls rest)) : W p l e R s m args below meth c H locs cells slots Q (F0 m (pc) ls (.int x :: .ref (a + 2) :: rest)) := by
  refine m_put (ci := 2) (C := RX2) (T := TX2) (N := 6) hx hb hts hin tyX2 tyX2_ok nmX2 hown hK hM hS hR.2.2.1 hR.2.2.2.2.2 rfl 2 (by decide) hlink rfl hch.1 hch.2 (Nat.le_of_ble_eq_true rfl) hdg (fun H1 locs1 hM1 hS1 => ?_)
  have e2 : (Sum.inr (2, ([.ref a, .int (rs 0), .int (rs 1), .int (rs 2), .int (rs 3), .int (rs 4)] : List Value).set 2 (.int x)) : va_E) = .inr (2, [.ref a, .int (va_up rs 1 x 0), .int (va_up rs 1 x 1), .int (va_up rs 1 x 2), .int (va_up rs 1 x 3), .int (va_up rs 1 x 4)]) := rfl
  rw [e2] at hM1
  obtain ⟨h1, h2, h3, h4, h5, h6⟩ := hR
  exact kk _ H1 locs1 hM1 ⟨h1, h2, h3, by rw [va_up_ne _ _ (by omega)]; exact h4, by rw [va_up_ne _ _ (by omega)]; exact h5, va_up_self _ _ _⟩ (hF.up (by omega) (by omega)) hS1
theorem rt_putPl (hx : p.tables.exec = Jvm.exec) (hb : c.code = cc) (hts : ∀ w ∈ Ts, w.before args s = true) (hin : ∀ w ∈ u_ws RX3 TX3 2, w ∈ Ts) (hown : s.vm.findClass own = some m.cls) (hK : KK g s) (hM : HD g A M H) (hS : va_S A H0 H locs) (hR : RepT g A M a f len rs) (hF : FrT a M0 M) (hlink : (Cond.fieldLink own index (TX3 1).1 (TX3 1).2.1 (TX3 1).2.2.1).before args s = true) {x : Int32} (hdg : decode cc pc = .ok (.putfield index, 3)) (kk : ∀ (M1 : MM) (H1 : Heap) (locs1 : List Loc), HD g A M1 H1 → RepT g A M1 a f x rs → FrT a M0 M1 → va_S A H0 H1 locs1 → W p l e R s m args below meth c H1 locs1 cells slots Q (F0 m (pc + 3) ls rest)) : W p l e R s m args below meth c H locs cells slots Q (F0 m (pc) ls (.int x :: .ref a :: rest)) := by
  refine m_put (ci := 3) (C := RX3) (T := TX3) (N := 2) hx hb hts hin tyX3 tyX3_ok nmX3 hown hK hM hS hR.1 hR.2.2.2.1 rfl 1 (by decide) hlink rfl rfl rfl (Nat.le_of_ble_eq_true rfl) hdg (fun H1 locs1 hM1 hS1 => ?_)
  obtain ⟨h1, h2, h3, h4, h5, h6⟩ := hR
  exact kk _ H1 locs1 hM1 ⟨h1, h2, h3, va_up_self _ _ _, by rw [va_up_ne _ _ (by omega)]; exact h5, by rw [va_up_ne _ _ (by omega)]; exact h6⟩ (hF.up (by omega) (by omega)) hS1
theorem rt_lenS (hx : p.tables.exec = Jvm.exec) (hb : c.code = cc) (hK : KK g s) (hM : HD g A M H) (hR : RepT g A M a f len rs) (hdg : decode cc pc = .ok (.arraylength, 1)) (kk : W p l e R s m args below meth c H locs cells slots Q (F0 m (pc + 1) ls (.int (nI 60) :: rest))) : W p l e R s m args below meth c H locs cells slots Q (F0 m (pc) ls (.ref (a + 1) :: rest)) :=
  m_alen hx hb hK hM hR.2.1 0 hR.2.2.2.2.1 rfl rfl hdg kk
theorem rt_cald (hx : p.tables.exec = Jvm.exec) (hb : c.code = cc) (hK : KK g s) (hM : HD g A M H) (hR : RepT g A M a f len rs) {i : Nat} (hi : i < 60) (hdg : decode cc pc = .ok (.caload, 1)) (kk : W p l e R s m args below meth c H locs cells slots Q (F0 m (pc + 1) ls (.int (f i) :: rest))) : W p l e R s m args below meth c H locs cells slots Q (F0 m (pc) ls (.int (nI i) :: .ref (a + 1) :: rest)) := by
  refine m_cald hx hb hK hM hR.2.1 hR.2.2.2.2.1 (vp_in_nI hi (by omega)) hdg ?_
  rw [nI_clamp (by omega)]
  exact kk
theorem rt_cast (hx : p.tables.exec = Jvm.exec) (hb : c.code = cc) (hK : KK g s) (hM : HD g A M H) (hS : va_S A H0 H locs) (hR : RepT g A M a f len rs) (hF : FrT a M0 M) {i : Nat} (hi : i < 60) {x : Int32} (hdg : decode cc pc = .ok (.castore, 1)) (kk : ∀ (M1 : MM) (H1 : Heap) (locs1 : List Loc), HD g A M1 H1 → RepT g A M1 a (va_up f i (vp_nar .char x)) len rs → FrT a M0 M1 → va_S A H0 H1 locs1 → W p l e R s m args below meth c H1 locs1 cells slots Q (F0 m (pc + 1) ls rest)) : W p l e R s m args below meth c H locs cells slots Q (F0 m (pc) ls (.int x :: .int (nI i) :: .ref (a + 1) :: rest)) := by
  refine m_cast hx hb hK hM hS hR.2.1 hR.2.2.2.2.1 (vp_in_nI hi (by omega)) hdg (fun H1 locs1 hM1 hS1 => ?_)
  rw [nI_clamp (show i < 2 ^ 31 by omega)] at hM1
  obtain ⟨h1, h2, h3, h4, h5, h6⟩ := hR
  exact kk _ H1 locs1 hM1 ⟨h1, h2, h3, by rw [va_up_ne _ _ (by omega)]; exact h4, va_up_self _ _ _, by rw [va_up_ne _ _ (by omega)]; exact h6⟩ (hF.up (by omega) (by omega)) hS1
end TROWS
/-! what is read -/
def sgC (f : Nat → Int32) (L q : Nat) : Int32 := if q < L then f q else 0
def dgC (f : Nat → Int32) (L q : Nat) : Int32 := if 48 ≤ sgC f L q ∧ sgC f L q ≤ 57 then sgC f L q - 48 else -1
def rnC (f : Nat → Int32) (L q : Nat) (lo hi : Int32) : Int32 × Nat :=
  if dgC f L q < lo ∨ hi < dgC f L q then (-1, q)
  else if dgC f L q = 0 ∨ dgC f L (q + 1) < 0 then (dgC f L q, q + 1)
  else if hi < 10 * dgC f L q + dgC f L (q + 1) then (-1, q + 1)
  else (10 * dgC f L q + dgC f L (q + 1), q + 2)
theorem rnC_q (f : Nat → Int32) (L q : Nat) (lo hi : Int32) : (rnC f L q lo hi).2 ≤ q + 2 := by
  unfold rnC
  split
  · exact Nat.le_add_right _ _
  · split
    · exact Nat.le_succ _
    · split
      · exact Nat.le_succ _
      · exact Nat.le_refl _
def raiC (f : Nat → Int32) (L q : Nat) : Bool × Nat × Int32 × Int32 :=
  if (rnC f L q 0 99).1 < 0 ∨ ¬ sgC f L (rnC f L q 0 99).2 = 104 then (false, (rnC f L q 0 99).2, 0, 0)
  else (decide (0 ≤ (rnC f L ((rnC f L q 0 99).2 + 1) 1 24).1), (rnC f L ((rnC f L q 0 99).2 + 1) 1 24).2, (rnC f L q 0 99).1, (rnC f L ((rnC f L q 0 99).2 + 1) 1 24).1)
/-- an order: whether it can be read, where it ends (or the fault), its kind, its numbers -/
def ordC (f : Nat → Int32) (L q : Nat) : Bool × Nat × Int32 × Int32 × Int32 :=
  if sgC f L q = 114 then ((raiC f L (q + 1)).1, (raiC f L (q + 1)).2.1, 114, (raiC f L (q + 1)).2.2.1, (raiC f L (q + 1)).2.2.2)
  else if sgC f L q = 115 then (decide (0 ≤ (rnC f L (q + 1) 0 5).1), (rnC f L (q + 1) 0 5).2, 115, (rnC f L (q + 1) 0 5).1, 0)
  else (false, q, 0, 0, 0)
/-- the fault from the order at q on, at most z orders: 60 and more if there is none -/
def fauC (f : Nat → Int32) (L : Nat) : Nat → Nat → Option Nat
  | 0, q => some q
  | z + 1, q => if (ordC f L q).1 = true then (if L ≤ (ordC f L q).2.1 then none else if sgC f L (ordC f L q).2.1 = 59 then fauC f L z ((ordC f L q).2.1 + 1) else some (ordC f L q).2.1) else some (ordC f L q).2.1
def codC (x : Int64) (p : Int32) : Int32 := ((x.toUInt64 >>> ((8 * p).toInt64.toUInt64 &&& Int64.toUInt64 63)).toInt64).toInt32 &&& 255
def shrC (x : Int64) (p : Int32) : Int64 := (x.toUInt64 >>> ((8 * p).toInt64.toUInt64 &&& Int64.toUInt64 63)).toInt64
def winC (x lo hi : Int32) : Int32 := if lo ≤ x ∧ x ≤ hi then 1 else 0
/-- the characters of a number: none if a code is out of range -/
def chW (x : Int64) : Nat → Nat → Option Nat
  | 0, p => some p
  | z + 1, p => if codC x (nI p) = 0 then some p else if winC (codC x (nI p)) 33 126 = 0 then none else chW x z (p + 1)
def chC (x : Int64) : Int32 := match chW x 8 0 with
  | none => 0
  | some p => if p = 8 ∨ shrC x (nI p) = 0 then nI p else 0
theorem chW_le (x : Int64) : ∀ (z p q : Nat), chW x z p = some q → p ≤ q ∧ q ≤ p + z := by
  intro z
  induction z with
  | zero => intro p q h; cases h; exact ⟨Nat.le_refl _, Nat.le_refl _⟩
  | succ z ih =>
    intro p q h
    unfold chW at h
    split at h
    · cases h; omega
    · split at h
      · cases h
      · have := ih _ _ h; omega

