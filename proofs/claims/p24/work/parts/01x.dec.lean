theorem dX0_init_0 : decode cX0_init 0 = .ok (.aload_n 0, 1) := by decide +kernel
theorem dX0_init_1 : decode cX0_init 1 = .ok (.invokespecial 1, 3) := by decide +kernel
theorem dX0_init_4 : decode cX0_init 4 = .ok (.aload_n 0, 1) := by decide +kernel
theorem dX0_init_5 : decode cX0_init 5 = .ok (.iconst 3, 1) := by decide +kernel
theorem dX0_init_6 : decode cX0_init 6 = .ok (.putfield 7, 3) := by decide +kernel
theorem dX0_init_9 : decode cX0_init 9 = .ok (.aload_n 0, 1) := by decide +kernel
theorem dX0_init_10 : decode cX0_init 10 = .ok (.bipush 10, 2) := by decide +kernel
theorem dX0_init_12 : decode cX0_init 12 = .ok (.putfield 13, 3) := by decide +kernel
theorem dX0_init_15 : decode cX0_init 15 = .ok (.aload_n 0, 1) := by decide +kernel
theorem dX0_init_16 : decode cX0_init 16 = .ok (.bipush 100, 2) := by decide +kernel
theorem dX0_init_18 : decode cX0_init 18 = .ok (.putfield 16, 3) := by decide +kernel
theorem dX0_init_21 : decode cX0_init 21 = .ok (.aload_n 0, 1) := by decide +kernel
theorem dX0_init_22 : decode cX0_init 22 = .ok (.new 19, 3) := by decide +kernel
theorem dX0_init_25 : decode cX0_init 25 = .ok (.dup, 1) := by decide +kernel
theorem dX0_init_26 : decode cX0_init 26 = .ok (.invokespecial 21, 3) := by decide +kernel
theorem dX0_init_29 : decode cX0_init 29 = .ok (.putfield 22, 3) := by decide +kernel
theorem dX0_init_32 : decode cX0_init 32 = .ok (.aload_n 0, 1) := by decide +kernel
theorem dX0_init_33 : decode cX0_init 33 = .ok (.iload_n 1, 1) := by decide +kernel
theorem dX0_init_34 : decode cX0_init 34 = .ok (.putfield 26, 3) := by decide +kernel
theorem dX0_init_37 : decode cX0_init 37 = .ok (.return_, 1) := by decide +kernel
theorem dX0_copyFrom_0 : decode cX0_copyFrom 0 = .ok (.aload_n 0, 1) := by decide +kernel
theorem dX0_copyFrom_1 : decode cX0_copyFrom 1 = .ok (.aload_n 1, 1) := by decide +kernel
theorem dX0_copyFrom_2 : decode cX0_copyFrom 2 = .ok (.getfield 7, 3) := by decide +kernel
theorem dX0_copyFrom_5 : decode cX0_copyFrom 5 = .ok (.putfield 7, 3) := by decide +kernel
theorem dX0_copyFrom_8 : decode cX0_copyFrom 8 = .ok (.aload_n 0, 1) := by decide +kernel
theorem dX0_copyFrom_9 : decode cX0_copyFrom 9 = .ok (.aload_n 1, 1) := by decide +kernel
theorem dX0_copyFrom_10 : decode cX0_copyFrom 10 = .ok (.getfield 13, 3) := by decide +kernel
theorem dX0_copyFrom_13 : decode cX0_copyFrom 13 = .ok (.putfield 13, 3) := by decide +kernel
theorem dX0_copyFrom_16 : decode cX0_copyFrom 16 = .ok (.aload_n 0, 1) := by decide +kernel
theorem dX0_copyFrom_17 : decode cX0_copyFrom 17 = .ok (.aload_n 1, 1) := by decide +kernel
theorem dX0_copyFrom_18 : decode cX0_copyFrom 18 = .ok (.getfield 16, 3) := by decide +kernel
theorem dX0_copyFrom_21 : decode cX0_copyFrom 21 = .ok (.putfield 16, 3) := by decide +kernel
theorem dX0_copyFrom_24 : decode cX0_copyFrom 24 = .ok (.aload_n 0, 1) := by decide +kernel
theorem dX0_copyFrom_25 : decode cX0_copyFrom 25 = .ok (.aload_n 1, 1) := by decide +kernel
theorem dX0_copyFrom_26 : decode cX0_copyFrom 26 = .ok (.getfield 26, 3) := by decide +kernel
theorem dX0_copyFrom_29 : decode cX0_copyFrom 29 = .ok (.putfield 26, 3) := by decide +kernel
theorem dX0_copyFrom_32 : decode cX0_copyFrom 32 = .ok (.aload_n 0, 1) := by decide +kernel
theorem dX0_copyFrom_33 : decode cX0_copyFrom 33 = .ok (.aload_n 1, 1) := by decide +kernel
theorem dX0_copyFrom_34 : decode cX0_copyFrom 34 = .ok (.getfield 29, 3) := by decide +kernel
theorem dX0_copyFrom_37 : decode cX0_copyFrom 37 = .ok (.putfield 29, 3) := by decide +kernel
theorem dX0_copyFrom_40 : decode cX0_copyFrom 40 = .ok (.aload_n 0, 1) := by decide +kernel
theorem dX0_copyFrom_41 : decode cX0_copyFrom 41 = .ok (.aload_n 1, 1) := by decide +kernel
theorem dX0_copyFrom_42 : decode cX0_copyFrom 42 = .ok (.getfield 32, 3) := by decide +kernel
theorem dX0_copyFrom_45 : decode cX0_copyFrom 45 = .ok (.putfield 32, 3) := by decide +kernel
theorem dX0_copyFrom_48 : decode cX0_copyFrom 48 = .ok (.aload_n 0, 1) := by decide +kernel
theorem dX0_copyFrom_49 : decode cX0_copyFrom 49 = .ok (.aload_n 1, 1) := by decide +kernel
theorem dX0_copyFrom_50 : decode cX0_copyFrom 50 = .ok (.getfield 35, 3) := by decide +kernel
theorem dX0_copyFrom_53 : decode cX0_copyFrom 53 = .ok (.putfield 35, 3) := by decide +kernel
theorem dX0_copyFrom_56 : decode cX0_copyFrom 56 = .ok (.aload_n 0, 1) := by decide +kernel
theorem dX0_copyFrom_57 : decode cX0_copyFrom 57 = .ok (.aload_n 1, 1) := by decide +kernel
theorem dX0_copyFrom_58 : decode cX0_copyFrom 58 = .ok (.getfield 38, 3) := by decide +kernel
theorem dX0_copyFrom_61 : decode cX0_copyFrom 61 = .ok (.putfield 38, 3) := by decide +kernel
theorem dX0_copyFrom_64 : decode cX0_copyFrom 64 = .ok (.aload_n 0, 1) := by decide +kernel
theorem dX0_copyFrom_65 : decode cX0_copyFrom 65 = .ok (.getfield 22, 3) := by decide +kernel
theorem dX0_copyFrom_68 : decode cX0_copyFrom 68 = .ok (.aload_n 1, 1) := by decide +kernel
theorem dX0_copyFrom_69 : decode cX0_copyFrom 69 = .ok (.getfield 22, 3) := by decide +kernel
theorem dX0_copyFrom_72 : decode cX0_copyFrom 72 = .ok (.invokevirtual 41, 3) := by decide +kernel
theorem dX0_copyFrom_75 : decode cX0_copyFrom 75 = .ok (.return_, 1) := by decide +kernel
theorem dX0_catchRain_0 : decode cX0_catchRain 0 = .ok (.iload_n 1, 1) := by decide +kernel
theorem dX0_catchRain_1 : decode cX0_catchRain 1 = .ok (.aload_n 0, 1) := by decide +kernel
theorem dX0_catchRain_2 : decode cX0_catchRain 2 = .ok (.getfield 7, 3) := by decide +kernel
theorem dX0_catchRain_5 : decode cX0_catchRain 5 = .ok (.imul, 1) := by decide +kernel
theorem dX0_catchRain_6 : decode cX0_catchRain 6 = .ok (.aload_n 0, 1) := by decide +kernel
theorem dX0_catchRain_7 : decode cX0_catchRain 7 = .ok (.getfield 16, 3) := by decide +kernel
theorem dX0_catchRain_10 : decode cX0_catchRain 10 = .ok (.imul, 1) := by decide +kernel
theorem dX0_catchRain_11 : decode cX0_catchRain 11 = .ok (.bipush 100, 2) := by decide +kernel
theorem dX0_catchRain_13 : decode cX0_catchRain 13 = .ok (.idiv, 1) := by decide +kernel
theorem dX0_catchRain_14 : decode cX0_catchRain 14 = .ok (.istore_n 2, 1) := by decide +kernel
theorem dX0_catchRain_15 : decode cX0_catchRain 15 = .ok (.aload_n 0, 1) := by decide +kernel
theorem dX0_catchRain_16 : decode cX0_catchRain 16 = .ok (.dup, 1) := by decide +kernel
theorem dX0_catchRain_17 : decode cX0_catchRain 17 = .ok (.getfield 35, 3) := by decide +kernel
theorem dX0_catchRain_20 : decode cX0_catchRain 20 = .ok (.iload_n 2, 1) := by decide +kernel
theorem dX0_catchRain_21 : decode cX0_catchRain 21 = .ok (.iadd, 1) := by decide +kernel
theorem dX0_catchRain_22 : decode cX0_catchRain 22 = .ok (.putfield 35, 3) := by decide +kernel
theorem dX0_catchRain_25 : decode cX0_catchRain 25 = .ok (.aload_n 0, 1) := by decide +kernel
theorem dX0_catchRain_26 : decode cX0_catchRain 26 = .ok (.dup, 1) := by decide +kernel
theorem dX0_catchRain_27 : decode cX0_catchRain 27 = .ok (.getfield 29, 3) := by decide +kernel
theorem dX0_catchRain_30 : decode cX0_catchRain 30 = .ok (.iload_n 2, 1) := by decide +kernel
theorem dX0_catchRain_31 : decode cX0_catchRain 31 = .ok (.iadd, 1) := by decide +kernel
theorem dX0_catchRain_32 : decode cX0_catchRain 32 = .ok (.putfield 29, 3) := by decide +kernel
theorem dX0_catchRain_35 : decode cX0_catchRain 35 = .ok (.aload_n 0, 1) := by decide +kernel
theorem dX0_catchRain_36 : decode cX0_catchRain 36 = .ok (.getfield 13, 3) := by decide +kernel
theorem dX0_catchRain_39 : decode cX0_catchRain 39 = .ok (.ifCond .le 15, 3) := by decide +kernel
theorem dX0_catchRain_42 : decode cX0_catchRain 42 = .ok (.aload_n 0, 1) := by decide +kernel
theorem dX0_catchRain_43 : decode cX0_catchRain 43 = .ok (.getfield 29, 3) := by decide +kernel
theorem dX0_catchRain_46 : decode cX0_catchRain 46 = .ok (.aload_n 0, 1) := by decide +kernel
theorem dX0_catchRain_47 : decode cX0_catchRain 47 = .ok (.getfield 13, 3) := by decide +kernel
theorem dX0_catchRain_50 : decode cX0_catchRain 50 = .ok (.idiv, 1) := by decide +kernel
theorem dX0_catchRain_51 : decode cX0_catchRain 51 = .ok (.goto 4, 3) := by decide +kernel
theorem dX0_catchRain_54 : decode cX0_catchRain 54 = .ok (.iconst 0, 1) := by decide +kernel
theorem dX0_catchRain_55 : decode cX0_catchRain 55 = .ok (.istore_n 3, 1) := by decide +kernel
theorem dX0_catchRain_56 : decode cX0_catchRain 56 = .ok (.aload_n 0, 1) := by decide +kernel
theorem dX0_catchRain_57 : decode cX0_catchRain 57 = .ok (.dup, 1) := by decide +kernel
theorem dX0_catchRain_58 : decode cX0_catchRain 58 = .ok (.getfield 29, 3) := by decide +kernel
theorem dX0_catchRain_61 : decode cX0_catchRain 61 = .ok (.iload_n 3, 1) := by decide +kernel
theorem dX0_catchRain_62 : decode cX0_catchRain 62 = .ok (.aload_n 0, 1) := by decide +kernel
theorem dX0_catchRain_63 : decode cX0_catchRain 63 = .ok (.getfield 13, 3) := by decide +kernel
theorem dX0_catchRain_66 : decode cX0_catchRain 66 = .ok (.imul, 1) := by decide +kernel
theorem dX0_catchRain_67 : decode cX0_catchRain 67 = .ok (.isub, 1) := by decide +kernel
theorem dX0_catchRain_68 : decode cX0_catchRain 68 = .ok (.putfield 29, 3) := by decide +kernel
theorem dX0_catchRain_71 : decode cX0_catchRain 71 = .ok (.aload_n 0, 1) := by decide +kernel
theorem dX0_catchRain_72 : decode cX0_catchRain 72 = .ok (.dup, 1) := by decide +kernel
theorem dX0_catchRain_73 : decode cX0_catchRain 73 = .ok (.getfield 38, 3) := by decide +kernel
theorem dX0_catchRain_76 : decode cX0_catchRain 76 = .ok (.iload_n 3, 1) := by decide +kernel
theorem dX0_catchRain_77 : decode cX0_catchRain 77 = .ok (.aload_n 0, 1) := by decide +kernel
theorem dX0_catchRain_78 : decode cX0_catchRain 78 = .ok (.getfield 13, 3) := by decide +kernel
theorem dX0_catchRain_81 : decode cX0_catchRain 81 = .ok (.imul, 1) := by decide +kernel
theorem dX0_catchRain_82 : decode cX0_catchRain 82 = .ok (.iadd, 1) := by decide +kernel
theorem dX0_catchRain_83 : decode cX0_catchRain 83 = .ok (.putfield 38, 3) := by decide +kernel
theorem dX0_catchRain_86 : decode cX0_catchRain 86 = .ok (.aload_n 0, 1) := by decide +kernel
theorem dX0_catchRain_87 : decode cX0_catchRain 87 = .ok (.dup, 1) := by decide +kernel
theorem dX0_catchRain_88 : decode cX0_catchRain 88 = .ok (.getfield 32, 3) := by decide +kernel
theorem dX0_catchRain_91 : decode cX0_catchRain 91 = .ok (.iload_n 3, 1) := by decide +kernel
theorem dX0_catchRain_92 : decode cX0_catchRain 92 = .ok (.iadd, 1) := by decide +kernel
theorem dX0_catchRain_93 : decode cX0_catchRain 93 = .ok (.putfield 32, 3) := by decide +kernel
theorem dX0_catchRain_96 : decode cX0_catchRain 96 = .ok (.iload_n 3, 1) := by decide +kernel
theorem dX0_catchRain_97 : decode cX0_catchRain 97 = .ok (.ireturn, 1) := by decide +kernel
theorem dX0_gap_0 : decode cX0_gap 0 = .ok (.aload_n 0, 1) := by decide +kernel
theorem dX0_gap_1 : decode cX0_gap 1 = .ok (.getfield 32, 3) := by decide +kernel
theorem dX0_gap_4 : decode cX0_gap 4 = .ok (.aload_n 0, 1) := by decide +kernel
theorem dX0_gap_5 : decode cX0_gap 5 = .ok (.getfield 22, 3) := by decide +kernel
theorem dX0_gap_8 : decode cX0_gap 8 = .ok (.getfield 45, 3) := by decide +kernel
theorem dX0_gap_11 : decode cX0_gap 11 = .ok (.isub, 1) := by decide +kernel
theorem dX0_gap_12 : decode cX0_gap 12 = .ok (.ireturn, 1) := by decide +kernel
theorem dX0_untold_0 : decode cX0_untold 0 = .ok (.aload_n 0, 1) := by decide +kernel
theorem dX0_untold_1 : decode cX0_untold 1 = .ok (.getfield 32, 3) := by decide +kernel
theorem dX0_untold_4 : decode cX0_untold 4 = .ok (.aload_n 0, 1) := by decide +kernel
theorem dX0_untold_5 : decode cX0_untold 5 = .ok (.getfield 22, 3) := by decide +kernel
theorem dX0_untold_8 : decode cX0_untold 8 = .ok (.getfield 48, 3) := by decide +kernel
theorem dX0_untold_11 : decode cX0_untold 11 = .ok (.isub, 1) := by decide +kernel
theorem dX0_untold_12 : decode cX0_untold 12 = .ok (.ireturn, 1) := by decide +kernel
theorem dX1_init_0 : decode cX1_init 0 = .ok (.aload_n 0, 1) := by decide +kernel
theorem dX1_init_1 : decode cX1_init 1 = .ok (.invokespecial 3, 3) := by decide +kernel
theorem dX1_init_4 : decode cX1_init 4 = .ok (.aload_n 0, 1) := by decide +kernel
theorem dX1_init_5 : decode cX1_init 5 = .ok (.bipush 6, 2) := by decide +kernel
theorem dX1_init_7 : decode cX1_init 7 = .ok (.anewarray 9, 3) := by decide +kernel
theorem dX1_init_10 : decode cX1_init 10 = .ok (.putfield 11, 3) := by decide +kernel
theorem dX1_init_13 : decode cX1_init 13 = .ok (.iconst 0, 1) := by decide +kernel
theorem dX1_init_14 : decode cX1_init 14 = .ok (.istore_n 1, 1) := by decide +kernel
theorem dX1_init_15 : decode cX1_init 15 = .ok (.iload_n 1, 1) := by decide +kernel
theorem dX1_init_16 : decode cX1_init 16 = .ok (.aload_n 0, 1) := by decide +kernel
theorem dX1_init_17 : decode cX1_init 17 = .ok (.getfield 11, 3) := by decide +kernel
theorem dX1_init_20 : decode cX1_init 20 = .ok (.arraylength, 1) := by decide +kernel
theorem dX1_init_21 : decode cX1_init 21 = .ok (.if_icmp .ge 22, 3) := by decide +kernel
theorem dX1_init_24 : decode cX1_init 24 = .ok (.aload_n 0, 1) := by decide +kernel
theorem dX1_init_25 : decode cX1_init 25 = .ok (.getfield 11, 3) := by decide +kernel
theorem dX1_init_28 : decode cX1_init 28 = .ok (.iload_n 1, 1) := by decide +kernel
theorem dX1_init_29 : decode cX1_init 29 = .ok (.new 9, 3) := by decide +kernel
theorem dX1_init_32 : decode cX1_init 32 = .ok (.dup, 1) := by decide +kernel
theorem dX1_init_33 : decode cX1_init 33 = .ok (.invokespecial 17, 3) := by decide +kernel
theorem dX1_init_36 : decode cX1_init 36 = .ok (.aastore, 1) := by decide +kernel
theorem dX1_init_37 : decode cX1_init 37 = .ok (.iinc 1 1, 3) := by decide +kernel
theorem dX1_init_40 : decode cX1_init 40 = .ok (.goto (-25), 3) := by decide +kernel
theorem dX1_init_43 : decode cX1_init 43 = .ok (.return_, 1) := by decide +kernel
theorem dX1_record_0 : decode cX1_record 0 = .ok (.aload_n 0, 1) := by decide +kernel
theorem dX1_record_1 : decode cX1_record 1 = .ok (.getfield 18, 3) := by decide +kernel
theorem dX1_record_4 : decode cX1_record 4 = .ok (.aload_n 0, 1) := by decide +kernel
theorem dX1_record_5 : decode cX1_record 5 = .ok (.getfield 11, 3) := by decide +kernel
theorem dX1_record_8 : decode cX1_record 8 = .ok (.arraylength, 1) := by decide +kernel
theorem dX1_record_9 : decode cX1_record 9 = .ok (.if_icmp .lt 7, 3) := by decide +kernel
theorem dX1_record_12 : decode cX1_record 12 = .ok (.aload_n 0, 1) := by decide +kernel
theorem dX1_record_13 : decode cX1_record 13 = .ok (.invokevirtual 22, 3) := by decide +kernel
theorem dX1_record_16 : decode cX1_record 16 = .ok (.aload_n 0, 1) := by decide +kernel
theorem dX1_record_17 : decode cX1_record 17 = .ok (.getfield 18, 3) := by decide +kernel
theorem dX1_record_20 : decode cX1_record 20 = .ok (.ifCond .lt 38, 3) := by decide +kernel
theorem dX1_record_23 : decode cX1_record 23 = .ok (.aload_n 0, 1) := by decide +kernel
theorem dX1_record_24 : decode cX1_record 24 = .ok (.getfield 18, 3) := by decide +kernel
theorem dX1_record_27 : decode cX1_record 27 = .ok (.aload_n 0, 1) := by decide +kernel
theorem dX1_record_28 : decode cX1_record 28 = .ok (.getfield 11, 3) := by decide +kernel
theorem dX1_record_31 : decode cX1_record 31 = .ok (.arraylength, 1) := by decide +kernel
theorem dX1_record_32 : decode cX1_record 32 = .ok (.if_icmp .ge 26, 3) := by decide +kernel
theorem dX1_record_35 : decode cX1_record 35 = .ok (.aload_n 0, 1) := by decide +kernel
theorem dX1_record_36 : decode cX1_record 36 = .ok (.getfield 11, 3) := by decide +kernel
theorem dX1_record_39 : decode cX1_record 39 = .ok (.aload_n 0, 1) := by decide +kernel
theorem dX1_record_40 : decode cX1_record 40 = .ok (.getfield 18, 3) := by decide +kernel
theorem dX1_record_43 : decode cX1_record 43 = .ok (.aaload, 1) := by decide +kernel
theorem dX1_record_44 : decode cX1_record 44 = .ok (.aload_n 1, 1) := by decide +kernel
theorem dX1_record_45 : decode cX1_record 45 = .ok (.invokevirtual 25, 3) := by decide +kernel
theorem dX1_record_48 : decode cX1_record 48 = .ok (.aload_n 0, 1) := by decide +kernel
theorem dX1_record_49 : decode cX1_record 49 = .ok (.dup, 1) := by decide +kernel
theorem dX1_record_50 : decode cX1_record 50 = .ok (.getfield 18, 3) := by decide +kernel
theorem dX1_record_53 : decode cX1_record 53 = .ok (.iconst 1, 1) := by decide +kernel
theorem dX1_record_54 : decode cX1_record 54 = .ok (.iadd, 1) := by decide +kernel
theorem dX1_record_55 : decode cX1_record 55 = .ok (.putfield 18, 3) := by decide +kernel
theorem dX1_record_58 : decode cX1_record 58 = .ok (.return_, 1) := by decide +kernel
theorem dX1_takeBack_0 : decode cX1_takeBack 0 = .ok (.aload_n 0, 1) := by decide +kernel
theorem dX1_takeBack_1 : decode cX1_takeBack 1 = .ok (.getfield 18, 3) := by decide +kernel
theorem dX1_takeBack_4 : decode cX1_takeBack 4 = .ok (.ifCond .le 15, 3) := by decide +kernel
theorem dX1_takeBack_7 : decode cX1_takeBack 7 = .ok (.aload_n 0, 1) := by decide +kernel
theorem dX1_takeBack_8 : decode cX1_takeBack 8 = .ok (.getfield 18, 3) := by decide +kernel
theorem dX1_takeBack_11 : decode cX1_takeBack 11 = .ok (.aload_n 0, 1) := by decide +kernel
theorem dX1_takeBack_12 : decode cX1_takeBack 12 = .ok (.getfield 11, 3) := by decide +kernel
theorem dX1_takeBack_15 : decode cX1_takeBack 15 = .ok (.arraylength, 1) := by decide +kernel
theorem dX1_takeBack_16 : decode cX1_takeBack 16 = .ok (.if_icmp .le 5, 3) := by decide +kernel
theorem dX1_takeBack_19 : decode cX1_takeBack 19 = .ok (.iconst 0, 1) := by decide +kernel
theorem dX1_takeBack_20 : decode cX1_takeBack 20 = .ok (.ireturn, 1) := by decide +kernel
theorem dX1_takeBack_21 : decode cX1_takeBack 21 = .ok (.aload_n 0, 1) := by decide +kernel
theorem dX1_takeBack_22 : decode cX1_takeBack 22 = .ok (.dup, 1) := by decide +kernel
theorem dX1_takeBack_23 : decode cX1_takeBack 23 = .ok (.getfield 18, 3) := by decide +kernel
theorem dX1_takeBack_26 : decode cX1_takeBack 26 = .ok (.iconst 1, 1) := by decide +kernel
theorem dX1_takeBack_27 : decode cX1_takeBack 27 = .ok (.isub, 1) := by decide +kernel
theorem dX1_takeBack_28 : decode cX1_takeBack 28 = .ok (.putfield 18, 3) := by decide +kernel
theorem dX1_takeBack_31 : decode cX1_takeBack 31 = .ok (.aload_n 1, 1) := by decide +kernel
theorem dX1_takeBack_32 : decode cX1_takeBack 32 = .ok (.aload_n 0, 1) := by decide +kernel
theorem dX1_takeBack_33 : decode cX1_takeBack 33 = .ok (.getfield 11, 3) := by decide +kernel
theorem dX1_takeBack_36 : decode cX1_takeBack 36 = .ok (.aload_n 0, 1) := by decide +kernel
theorem dX1_takeBack_37 : decode cX1_takeBack 37 = .ok (.getfield 18, 3) := by decide +kernel
theorem dX1_takeBack_40 : decode cX1_takeBack 40 = .ok (.aaload, 1) := by decide +kernel
theorem dX1_takeBack_41 : decode cX1_takeBack 41 = .ok (.invokevirtual 25, 3) := by decide +kernel
theorem dX1_takeBack_44 : decode cX1_takeBack 44 = .ok (.iconst 1, 1) := by decide +kernel
theorem dX1_takeBack_45 : decode cX1_takeBack 45 = .ok (.ireturn, 1) := by decide +kernel
theorem dX1_dropOldest_0 : decode cX1_dropOldest 0 = .ok (.aload_n 0, 1) := by decide +kernel
theorem dX1_dropOldest_1 : decode cX1_dropOldest 1 = .ok (.getfield 11, 3) := by decide +kernel
theorem dX1_dropOldest_4 : decode cX1_dropOldest 4 = .ok (.arraylength, 1) := by decide +kernel
theorem dX1_dropOldest_5 : decode cX1_dropOldest 5 = .ok (.iconst 1, 1) := by decide +kernel
theorem dX1_dropOldest_6 : decode cX1_dropOldest 6 = .ok (.isub, 1) := by decide +kernel
theorem dX1_dropOldest_7 : decode cX1_dropOldest 7 = .ok (.istore_n 1, 1) := by decide +kernel
theorem dX1_dropOldest_8 : decode cX1_dropOldest 8 = .ok (.aload_n 0, 1) := by decide +kernel
theorem dX1_dropOldest_9 : decode cX1_dropOldest 9 = .ok (.getfield 11, 3) := by decide +kernel
theorem dX1_dropOldest_12 : decode cX1_dropOldest 12 = .ok (.iconst 0, 1) := by decide +kernel
theorem dX1_dropOldest_13 : decode cX1_dropOldest 13 = .ok (.aaload, 1) := by decide +kernel
theorem dX1_dropOldest_14 : decode cX1_dropOldest 14 = .ok (.astore_n 2, 1) := by decide +kernel
theorem dX1_dropOldest_15 : decode cX1_dropOldest 15 = .ok (.iconst 0, 1) := by decide +kernel
theorem dX1_dropOldest_16 : decode cX1_dropOldest 16 = .ok (.istore_n 3, 1) := by decide +kernel
theorem dX1_dropOldest_17 : decode cX1_dropOldest 17 = .ok (.iload_n 3, 1) := by decide +kernel
theorem dX1_dropOldest_18 : decode cX1_dropOldest 18 = .ok (.iload_n 1, 1) := by decide +kernel
theorem dX1_dropOldest_19 : decode cX1_dropOldest 19 = .ok (.if_icmp .ge 23, 3) := by decide +kernel
theorem dX1_dropOldest_22 : decode cX1_dropOldest 22 = .ok (.aload_n 0, 1) := by decide +kernel
theorem dX1_dropOldest_23 : decode cX1_dropOldest 23 = .ok (.getfield 11, 3) := by decide +kernel
theorem dX1_dropOldest_26 : decode cX1_dropOldest 26 = .ok (.iload_n 3, 1) := by decide +kernel
theorem dX1_dropOldest_27 : decode cX1_dropOldest 27 = .ok (.aload_n 0, 1) := by decide +kernel
theorem dX1_dropOldest_28 : decode cX1_dropOldest 28 = .ok (.getfield 11, 3) := by decide +kernel
theorem dX1_dropOldest_31 : decode cX1_dropOldest 31 = .ok (.iload_n 3, 1) := by decide +kernel
theorem dX1_dropOldest_32 : decode cX1_dropOldest 32 = .ok (.iconst 1, 1) := by decide +kernel
theorem dX1_dropOldest_33 : decode cX1_dropOldest 33 = .ok (.iadd, 1) := by decide +kernel
theorem dX1_dropOldest_34 : decode cX1_dropOldest 34 = .ok (.aaload, 1) := by decide +kernel
theorem dX1_dropOldest_35 : decode cX1_dropOldest 35 = .ok (.aastore, 1) := by decide +kernel
theorem dX1_dropOldest_36 : decode cX1_dropOldest 36 = .ok (.iinc 3 1, 3) := by decide +kernel
theorem dX1_dropOldest_39 : decode cX1_dropOldest 39 = .ok (.goto (-22), 3) := by decide +kernel
theorem dX1_dropOldest_42 : decode cX1_dropOldest 42 = .ok (.aload_n 0, 1) := by decide +kernel
theorem dX1_dropOldest_43 : decode cX1_dropOldest 43 = .ok (.getfield 11, 3) := by decide +kernel
theorem dX1_dropOldest_46 : decode cX1_dropOldest 46 = .ok (.iload_n 1, 1) := by decide +kernel
theorem dX1_dropOldest_47 : decode cX1_dropOldest 47 = .ok (.aload_n 2, 1) := by decide +kernel
theorem dX1_dropOldest_48 : decode cX1_dropOldest 48 = .ok (.aastore, 1) := by decide +kernel
theorem dX1_dropOldest_49 : decode cX1_dropOldest 49 = .ok (.aload_n 0, 1) := by decide +kernel
theorem dX1_dropOldest_50 : decode cX1_dropOldest 50 = .ok (.iload_n 1, 1) := by decide +kernel
theorem dX1_dropOldest_51 : decode cX1_dropOldest 51 = .ok (.putfield 18, 3) := by decide +kernel
theorem dX1_dropOldest_54 : decode cX1_dropOldest 54 = .ok (.return_, 1) := by decide +kernel
theorem dX2_init_0 : decode cX2_init 0 = .ok (.aload_n 0, 1) := by decide +kernel
theorem dX2_init_1 : decode cX2_init 1 = .ok (.invokespecial 3, 3) := by decide +kernel
theorem dX2_init_4 : decode cX2_init 4 = .ok (.aload_n 0, 1) := by decide +kernel
theorem dX2_init_5 : decode cX2_init 5 = .ok (.aload_n 1, 1) := by decide +kernel
theorem dX2_init_6 : decode cX2_init 6 = .ok (.putfield 9, 3) := by decide +kernel
theorem dX2_init_9 : decode cX2_init 9 = .ok (.return_, 1) := by decide +kernel
theorem dX3_init_0 : decode cX3_init 0 = .ok (.aload_n 0, 1) := by decide +kernel
theorem dX3_init_1 : decode cX3_init 1 = .ok (.invokespecial 3, 3) := by decide +kernel
theorem dX3_init_4 : decode cX3_init 4 = .ok (.aload_n 0, 1) := by decide +kernel
theorem dX3_init_5 : decode cX3_init 5 = .ok (.bipush 60, 2) := by decide +kernel
theorem dX3_init_7 : decode cX3_init 7 = .ok (.newarray .char, 2) := by decide +kernel
theorem dX3_init_9 : decode cX3_init 9 = .ok (.putfield 9, 3) := by decide +kernel
theorem dX3_init_12 : decode cX3_init 12 = .ok (.return_, 1) := by decide +kernel
theorem dX4_init_0 : decode cX4_init 0 = .ok (.aload_n 0, 1) := by decide +kernel
theorem dX4_init_1 : decode cX4_init 1 = .ok (.invokespecial 1, 3) := by decide +kernel
theorem dX4_init_4 : decode cX4_init 4 = .ok (.return_, 1) := by decide +kernel
theorem dX4_copyFrom_0 : decode cX4_copyFrom 0 = .ok (.aload_n 0, 1) := by decide +kernel
theorem dX4_copyFrom_1 : decode cX4_copyFrom 1 = .ok (.aload_n 1, 1) := by decide +kernel
theorem dX4_copyFrom_2 : decode cX4_copyFrom 2 = .ok (.getfield 7, 3) := by decide +kernel
theorem dX4_copyFrom_5 : decode cX4_copyFrom 5 = .ok (.putfield 7, 3) := by decide +kernel
theorem dX4_copyFrom_8 : decode cX4_copyFrom 8 = .ok (.aload_n 0, 1) := by decide +kernel
theorem dX4_copyFrom_9 : decode cX4_copyFrom 9 = .ok (.aload_n 1, 1) := by decide +kernel
theorem dX4_copyFrom_10 : decode cX4_copyFrom 10 = .ok (.getfield 13, 3) := by decide +kernel
theorem dX4_copyFrom_13 : decode cX4_copyFrom 13 = .ok (.putfield 13, 3) := by decide +kernel
theorem dX4_copyFrom_16 : decode cX4_copyFrom 16 = .ok (.aload_n 0, 1) := by decide +kernel
theorem dX4_copyFrom_17 : decode cX4_copyFrom 17 = .ok (.aload_n 1, 1) := by decide +kernel
theorem dX4_copyFrom_18 : decode cX4_copyFrom 18 = .ok (.getfield 16, 3) := by decide +kernel
theorem dX4_copyFrom_21 : decode cX4_copyFrom 21 = .ok (.putfield 16, 3) := by decide +kernel
theorem dX4_copyFrom_24 : decode cX4_copyFrom 24 = .ok (.aload_n 0, 1) := by decide +kernel
theorem dX4_copyFrom_25 : decode cX4_copyFrom 25 = .ok (.aload_n 1, 1) := by decide +kernel
theorem dX4_copyFrom_26 : decode cX4_copyFrom 26 = .ok (.getfield 19, 3) := by decide +kernel
theorem dX4_copyFrom_29 : decode cX4_copyFrom 29 = .ok (.putfield 19, 3) := by decide +kernel
theorem dX4_copyFrom_32 : decode cX4_copyFrom 32 = .ok (.aload_n 0, 1) := by decide +kernel
theorem dX4_copyFrom_33 : decode cX4_copyFrom 33 = .ok (.aload_n 1, 1) := by decide +kernel
theorem dX4_copyFrom_34 : decode cX4_copyFrom 34 = .ok (.getfield 22, 3) := by decide +kernel
theorem dX4_copyFrom_37 : decode cX4_copyFrom 37 = .ok (.putfield 22, 3) := by decide +kernel
theorem dX4_copyFrom_40 : decode cX4_copyFrom 40 = .ok (.aload_n 0, 1) := by decide +kernel
theorem dX4_copyFrom_41 : decode cX4_copyFrom 41 = .ok (.aload_n 1, 1) := by decide +kernel
theorem dX4_copyFrom_42 : decode cX4_copyFrom 42 = .ok (.getfield 25, 3) := by decide +kernel
theorem dX4_copyFrom_45 : decode cX4_copyFrom 45 = .ok (.putfield 25, 3) := by decide +kernel
theorem dX4_copyFrom_48 : decode cX4_copyFrom 48 = .ok (.aload_n 0, 1) := by decide +kernel
theorem dX4_copyFrom_49 : decode cX4_copyFrom 49 = .ok (.aload_n 1, 1) := by decide +kernel
theorem dX4_copyFrom_50 : decode cX4_copyFrom 50 = .ok (.getfield 28, 3) := by decide +kernel
theorem dX4_copyFrom_53 : decode cX4_copyFrom 53 = .ok (.putfield 28, 3) := by decide +kernel
theorem dX4_copyFrom_56 : decode cX4_copyFrom 56 = .ok (.aload_n 0, 1) := by decide +kernel
theorem dX4_copyFrom_57 : decode cX4_copyFrom 57 = .ok (.aload_n 1, 1) := by decide +kernel
theorem dX4_copyFrom_58 : decode cX4_copyFrom 58 = .ok (.getfield 31, 3) := by decide +kernel
theorem dX4_copyFrom_61 : decode cX4_copyFrom 61 = .ok (.putfield 31, 3) := by decide +kernel
theorem dX4_copyFrom_64 : decode cX4_copyFrom 64 = .ok (.return_, 1) := by decide +kernel
theorem dX5_init_0 : decode cX5_init 0 = .ok (.aload_n 0, 1) := by decide +kernel
theorem dX5_init_1 : decode cX5_init 1 = .ok (.invokespecial 1, 3) := by decide +kernel
theorem dX5_init_4 : decode cX5_init 4 = .ok (.return_, 1) := by decide +kernel
theorem dX5_copyFrom_0 : decode cX5_copyFrom 0 = .ok (.aload_n 0, 1) := by decide +kernel
theorem dX5_copyFrom_1 : decode cX5_copyFrom 1 = .ok (.aload_n 1, 1) := by decide +kernel
theorem dX5_copyFrom_2 : decode cX5_copyFrom 2 = .ok (.getfield 7, 3) := by decide +kernel
theorem dX5_copyFrom_5 : decode cX5_copyFrom 5 = .ok (.putfield 7, 3) := by decide +kernel
theorem dX5_copyFrom_8 : decode cX5_copyFrom 8 = .ok (.aload_n 0, 1) := by decide +kernel
theorem dX5_copyFrom_9 : decode cX5_copyFrom 9 = .ok (.aload_n 1, 1) := by decide +kernel
theorem dX5_copyFrom_10 : decode cX5_copyFrom 10 = .ok (.getfield 13, 3) := by decide +kernel
theorem dX5_copyFrom_13 : decode cX5_copyFrom 13 = .ok (.putfield 13, 3) := by decide +kernel
theorem dX5_copyFrom_16 : decode cX5_copyFrom 16 = .ok (.aload_n 0, 1) := by decide +kernel
theorem dX5_copyFrom_17 : decode cX5_copyFrom 17 = .ok (.aload_n 1, 1) := by decide +kernel
theorem dX5_copyFrom_18 : decode cX5_copyFrom 18 = .ok (.getfield 16, 3) := by decide +kernel
theorem dX5_copyFrom_21 : decode cX5_copyFrom 21 = .ok (.putfield 16, 3) := by decide +kernel
theorem dX5_copyFrom_24 : decode cX5_copyFrom 24 = .ok (.aload_n 0, 1) := by decide +kernel
theorem dX5_copyFrom_25 : decode cX5_copyFrom 25 = .ok (.aload_n 1, 1) := by decide +kernel
theorem dX5_copyFrom_26 : decode cX5_copyFrom 26 = .ok (.getfield 19, 3) := by decide +kernel
theorem dX5_copyFrom_29 : decode cX5_copyFrom 29 = .ok (.putfield 19, 3) := by decide +kernel
theorem dX5_copyFrom_32 : decode cX5_copyFrom 32 = .ok (.aload_n 0, 1) := by decide +kernel
theorem dX5_copyFrom_33 : decode cX5_copyFrom 33 = .ok (.aload_n 1, 1) := by decide +kernel
theorem dX5_copyFrom_34 : decode cX5_copyFrom 34 = .ok (.getfield 22, 3) := by decide +kernel
theorem dX5_copyFrom_37 : decode cX5_copyFrom 37 = .ok (.putfield 22, 3) := by decide +kernel
theorem dX5_copyFrom_40 : decode cX5_copyFrom 40 = .ok (.return_, 1) := by decide +kernel
theorem dX6_init_0 : decode cX6_init 0 = .ok (.aload_n 0, 1) := by decide +kernel
theorem dX6_init_1 : decode cX6_init 1 = .ok (.invokespecial 3, 3) := by decide +kernel
theorem dX6_init_4 : decode cX6_init 4 = .ok (.aload_n 0, 1) := by decide +kernel
theorem dX6_init_5 : decode cX6_init 5 = .ok (.bipush 10, 2) := by decide +kernel
theorem dX6_init_7 : decode cX6_init 7 = .ok (.putfield 9, 3) := by decide +kernel
theorem dX6_init_10 : decode cX6_init 10 = .ok (.aload_n 0, 1) := by decide +kernel
theorem dX6_init_11 : decode cX6_init 11 = .ok (.iconst 1, 1) := by decide +kernel
theorem dX6_init_12 : decode cX6_init 12 = .ok (.putfield 15, 3) := by decide +kernel
theorem dX6_init_15 : decode cX6_init 15 = .ok (.aload_n 0, 1) := by decide +kernel
theorem dX6_init_16 : decode cX6_init 16 = .ok (.bipush 6, 2) := by decide +kernel
theorem dX6_init_18 : decode cX6_init 18 = .ok (.anewarray 18, 3) := by decide +kernel
theorem dX6_init_21 : decode cX6_init 21 = .ok (.putfield 20, 3) := by decide +kernel
theorem dX6_init_24 : decode cX6_init 24 = .ok (.aload_n 0, 1) := by decide +kernel
theorem dX6_init_25 : decode cX6_init 25 = .ok (.bipush 20, 2) := by decide +kernel
theorem dX6_init_27 : decode cX6_init 27 = .ok (.anewarray 24, 3) := by decide +kernel
theorem dX6_init_30 : decode cX6_init 30 = .ok (.putfield 26, 3) := by decide +kernel
theorem dX6_init_33 : decode cX6_init 33 = .ok (.iconst 0, 1) := by decide +kernel
theorem dX6_init_34 : decode cX6_init 34 = .ok (.istore_n 1, 1) := by decide +kernel
theorem dX6_init_35 : decode cX6_init 35 = .ok (.iload_n 1, 1) := by decide +kernel
theorem dX6_init_36 : decode cX6_init 36 = .ok (.aload_n 0, 1) := by decide +kernel
theorem dX6_init_37 : decode cX6_init 37 = .ok (.getfield 20, 3) := by decide +kernel
theorem dX6_init_40 : decode cX6_init 40 = .ok (.arraylength, 1) := by decide +kernel
theorem dX6_init_41 : decode cX6_init 41 = .ok (.if_icmp .ge 23, 3) := by decide +kernel
theorem dX6_init_44 : decode cX6_init 44 = .ok (.aload_n 0, 1) := by decide +kernel
theorem dX6_init_45 : decode cX6_init 45 = .ok (.getfield 20, 3) := by decide +kernel
theorem dX6_init_48 : decode cX6_init 48 = .ok (.iload_n 1, 1) := by decide +kernel
theorem dX6_init_49 : decode cX6_init 49 = .ok (.new 18, 3) := by decide +kernel
theorem dX6_init_52 : decode cX6_init 52 = .ok (.dup, 1) := by decide +kernel
theorem dX6_init_53 : decode cX6_init 53 = .ok (.iload_n 1, 1) := by decide +kernel
theorem dX6_init_54 : decode cX6_init 54 = .ok (.invokespecial 30, 3) := by decide +kernel
theorem dX6_init_57 : decode cX6_init 57 = .ok (.aastore, 1) := by decide +kernel
theorem dX6_init_58 : decode cX6_init 58 = .ok (.iinc 1 1, 3) := by decide +kernel
theorem dX6_init_61 : decode cX6_init 61 = .ok (.goto (-26), 3) := by decide +kernel
theorem dX6_init_64 : decode cX6_init 64 = .ok (.iconst 0, 1) := by decide +kernel
theorem dX6_init_65 : decode cX6_init 65 = .ok (.istore_n 1, 1) := by decide +kernel
theorem dX6_init_66 : decode cX6_init 66 = .ok (.iload_n 1, 1) := by decide +kernel
theorem dX6_init_67 : decode cX6_init 67 = .ok (.aload_n 0, 1) := by decide +kernel
theorem dX6_init_68 : decode cX6_init 68 = .ok (.getfield 26, 3) := by decide +kernel
theorem dX6_init_71 : decode cX6_init 71 = .ok (.arraylength, 1) := by decide +kernel
theorem dX6_init_72 : decode cX6_init 72 = .ok (.if_icmp .ge 22, 3) := by decide +kernel
theorem dX6_init_75 : decode cX6_init 75 = .ok (.aload_n 0, 1) := by decide +kernel
theorem dX6_init_76 : decode cX6_init 76 = .ok (.getfield 26, 3) := by decide +kernel
theorem dX6_init_79 : decode cX6_init 79 = .ok (.iload_n 1, 1) := by decide +kernel
theorem dX6_init_80 : decode cX6_init 80 = .ok (.new 24, 3) := by decide +kernel
theorem dX6_init_83 : decode cX6_init 83 = .ok (.dup, 1) := by decide +kernel
theorem dX6_init_84 : decode cX6_init 84 = .ok (.invokespecial 33, 3) := by decide +kernel
theorem dX6_init_87 : decode cX6_init 87 = .ok (.aastore, 1) := by decide +kernel
theorem dX6_init_88 : decode cX6_init 88 = .ok (.iinc 1 1, 3) := by decide +kernel
theorem dX6_init_91 : decode cX6_init 91 = .ok (.goto (-25), 3) := by decide +kernel
theorem dX6_init_94 : decode cX6_init 94 = .ok (.return_, 1) := by decide +kernel
theorem dX6_copyFrom_0 : decode cX6_copyFrom 0 = .ok (.aload_n 0, 1) := by decide +kernel
theorem dX6_copyFrom_1 : decode cX6_copyFrom 1 = .ok (.aload_n 1, 1) := by decide +kernel
theorem dX6_copyFrom_2 : decode cX6_copyFrom 2 = .ok (.getfield 9, 3) := by decide +kernel
theorem dX6_copyFrom_5 : decode cX6_copyFrom 5 = .ok (.putfield 9, 3) := by decide +kernel
theorem dX6_copyFrom_8 : decode cX6_copyFrom 8 = .ok (.aload_n 0, 1) := by decide +kernel
theorem dX6_copyFrom_9 : decode cX6_copyFrom 9 = .ok (.aload_n 1, 1) := by decide +kernel
theorem dX6_copyFrom_10 : decode cX6_copyFrom 10 = .ok (.getfield 15, 3) := by decide +kernel
theorem dX6_copyFrom_13 : decode cX6_copyFrom 13 = .ok (.putfield 15, 3) := by decide +kernel
theorem dX6_copyFrom_16 : decode cX6_copyFrom 16 = .ok (.aload_n 0, 1) := by decide +kernel
theorem dX6_copyFrom_17 : decode cX6_copyFrom 17 = .ok (.aload_n 1, 1) := by decide +kernel
theorem dX6_copyFrom_18 : decode cX6_copyFrom 18 = .ok (.getfield 34, 3) := by decide +kernel
theorem dX6_copyFrom_21 : decode cX6_copyFrom 21 = .ok (.putfield 34, 3) := by decide +kernel
theorem dX6_copyFrom_24 : decode cX6_copyFrom 24 = .ok (.aload_n 0, 1) := by decide +kernel
theorem dX6_copyFrom_25 : decode cX6_copyFrom 25 = .ok (.aload_n 1, 1) := by decide +kernel
theorem dX6_copyFrom_26 : decode cX6_copyFrom 26 = .ok (.getfield 37, 3) := by decide +kernel
theorem dX6_copyFrom_29 : decode cX6_copyFrom 29 = .ok (.putfield 37, 3) := by decide +kernel
theorem dX6_copyFrom_32 : decode cX6_copyFrom 32 = .ok (.iconst 0, 1) := by decide +kernel
theorem dX6_copyFrom_33 : decode cX6_copyFrom 33 = .ok (.istore_n 2, 1) := by decide +kernel
theorem dX6_copyFrom_34 : decode cX6_copyFrom 34 = .ok (.iload_n 2, 1) := by decide +kernel
theorem dX6_copyFrom_35 : decode cX6_copyFrom 35 = .ok (.bipush 6, 2) := by decide +kernel
theorem dX6_copyFrom_37 : decode cX6_copyFrom 37 = .ok (.if_icmp .ge 24, 3) := by decide +kernel
theorem dX6_copyFrom_40 : decode cX6_copyFrom 40 = .ok (.aload_n 0, 1) := by decide +kernel
theorem dX6_copyFrom_41 : decode cX6_copyFrom 41 = .ok (.getfield 20, 3) := by decide +kernel
theorem dX6_copyFrom_44 : decode cX6_copyFrom 44 = .ok (.iload_n 2, 1) := by decide +kernel
theorem dX6_copyFrom_45 : decode cX6_copyFrom 45 = .ok (.aaload, 1) := by decide +kernel
theorem dX6_copyFrom_46 : decode cX6_copyFrom 46 = .ok (.aload_n 1, 1) := by decide +kernel
theorem dX6_copyFrom_47 : decode cX6_copyFrom 47 = .ok (.getfield 20, 3) := by decide +kernel
theorem dX6_copyFrom_50 : decode cX6_copyFrom 50 = .ok (.iload_n 2, 1) := by decide +kernel
theorem dX6_copyFrom_51 : decode cX6_copyFrom 51 = .ok (.aaload, 1) := by decide +kernel
theorem dX6_copyFrom_52 : decode cX6_copyFrom 52 = .ok (.invokevirtual 40, 3) := by decide +kernel
theorem dX6_copyFrom_55 : decode cX6_copyFrom 55 = .ok (.iinc 2 1, 3) := by decide +kernel
theorem dX6_copyFrom_58 : decode cX6_copyFrom 58 = .ok (.goto (-24), 3) := by decide +kernel
theorem dX6_copyFrom_61 : decode cX6_copyFrom 61 = .ok (.iconst 0, 1) := by decide +kernel
theorem dX6_copyFrom_62 : decode cX6_copyFrom 62 = .ok (.istore_n 2, 1) := by decide +kernel
theorem dX6_copyFrom_63 : decode cX6_copyFrom 63 = .ok (.iload_n 2, 1) := by decide +kernel
theorem dX6_copyFrom_64 : decode cX6_copyFrom 64 = .ok (.aload_n 0, 1) := by decide +kernel
theorem dX6_copyFrom_65 : decode cX6_copyFrom 65 = .ok (.getfield 37, 3) := by decide +kernel
theorem dX6_copyFrom_68 : decode cX6_copyFrom 68 = .ok (.if_icmp .ge 30, 3) := by decide +kernel
theorem dX6_copyFrom_71 : decode cX6_copyFrom 71 = .ok (.iload_n 2, 1) := by decide +kernel
theorem dX6_copyFrom_72 : decode cX6_copyFrom 72 = .ok (.bipush 20, 2) := by decide +kernel
theorem dX6_copyFrom_74 : decode cX6_copyFrom 74 = .ok (.if_icmp .ge 24, 3) := by decide +kernel
theorem dX6_copyFrom_77 : decode cX6_copyFrom 77 = .ok (.aload_n 0, 1) := by decide +kernel
theorem dX6_copyFrom_78 : decode cX6_copyFrom 78 = .ok (.getfield 26, 3) := by decide +kernel
theorem dX6_copyFrom_81 : decode cX6_copyFrom 81 = .ok (.iload_n 2, 1) := by decide +kernel
theorem dX6_copyFrom_82 : decode cX6_copyFrom 82 = .ok (.aaload, 1) := by decide +kernel
theorem dX6_copyFrom_83 : decode cX6_copyFrom 83 = .ok (.aload_n 1, 1) := by decide +kernel
theorem dX6_copyFrom_84 : decode cX6_copyFrom 84 = .ok (.getfield 26, 3) := by decide +kernel
theorem dX6_copyFrom_87 : decode cX6_copyFrom 87 = .ok (.iload_n 2, 1) := by decide +kernel
theorem dX6_copyFrom_88 : decode cX6_copyFrom 88 = .ok (.aaload, 1) := by decide +kernel
theorem dX6_copyFrom_89 : decode cX6_copyFrom 89 = .ok (.invokevirtual 44, 3) := by decide +kernel
theorem dX6_copyFrom_92 : decode cX6_copyFrom 92 = .ok (.iinc 2 1, 3) := by decide +kernel
theorem dX6_copyFrom_95 : decode cX6_copyFrom 95 = .ok (.goto (-32), 3) := by decide +kernel
theorem dX6_copyFrom_98 : decode cX6_copyFrom 98 = .ok (.return_, 1) := by decide +kernel
theorem dX6_gaugeAt_0 : decode cX6_gaugeAt 0 = .ok (.iload_n 1, 1) := by decide +kernel
theorem dX6_gaugeAt_1 : decode cX6_gaugeAt 1 = .ok (.ifCond .lt 21, 3) := by decide +kernel
theorem dX6_gaugeAt_4 : decode cX6_gaugeAt 4 = .ok (.iload_n 1, 1) := by decide +kernel
theorem dX6_gaugeAt_5 : decode cX6_gaugeAt 5 = .ok (.aload_n 0, 1) := by decide +kernel
theorem dX6_gaugeAt_6 : decode cX6_gaugeAt 6 = .ok (.getfield 20, 3) := by decide +kernel
theorem dX6_gaugeAt_9 : decode cX6_gaugeAt 9 = .ok (.arraylength, 1) := by decide +kernel
theorem dX6_gaugeAt_10 : decode cX6_gaugeAt 10 = .ok (.if_icmp .ge 12, 3) := by decide +kernel
theorem dX6_gaugeAt_13 : decode cX6_gaugeAt 13 = .ok (.aload_n 0, 1) := by decide +kernel
theorem dX6_gaugeAt_14 : decode cX6_gaugeAt 14 = .ok (.getfield 20, 3) := by decide +kernel
theorem dX6_gaugeAt_17 : decode cX6_gaugeAt 17 = .ok (.iload_n 1, 1) := by decide +kernel
theorem dX6_gaugeAt_18 : decode cX6_gaugeAt 18 = .ok (.aaload, 1) := by decide +kernel
theorem dX6_gaugeAt_19 : decode cX6_gaugeAt 19 = .ok (.goto 4, 3) := by decide +kernel
theorem dX6_gaugeAt_22 : decode cX6_gaugeAt 22 = .ok (.aconst_null, 1) := by decide +kernel
theorem dX6_gaugeAt_23 : decode cX6_gaugeAt 23 = .ok (.areturn, 1) := by decide +kernel
theorem dX6_runnerAt_0 : decode cX6_runnerAt 0 = .ok (.iload_n 1, 1) := by decide +kernel
theorem dX6_runnerAt_1 : decode cX6_runnerAt 1 = .ok (.ifCond .lt 29, 3) := by decide +kernel
theorem dX6_runnerAt_4 : decode cX6_runnerAt 4 = .ok (.iload_n 1, 1) := by decide +kernel
theorem dX6_runnerAt_5 : decode cX6_runnerAt 5 = .ok (.aload_n 0, 1) := by decide +kernel
theorem dX6_runnerAt_6 : decode cX6_runnerAt 6 = .ok (.getfield 37, 3) := by decide +kernel
theorem dX6_runnerAt_9 : decode cX6_runnerAt 9 = .ok (.if_icmp .ge 21, 3) := by decide +kernel
theorem dX6_runnerAt_12 : decode cX6_runnerAt 12 = .ok (.iload_n 1, 1) := by decide +kernel
theorem dX6_runnerAt_13 : decode cX6_runnerAt 13 = .ok (.aload_n 0, 1) := by decide +kernel
theorem dX6_runnerAt_14 : decode cX6_runnerAt 14 = .ok (.getfield 26, 3) := by decide +kernel
theorem dX6_runnerAt_17 : decode cX6_runnerAt 17 = .ok (.arraylength, 1) := by decide +kernel
theorem dX6_runnerAt_18 : decode cX6_runnerAt 18 = .ok (.if_icmp .ge 12, 3) := by decide +kernel
theorem dX6_runnerAt_21 : decode cX6_runnerAt 21 = .ok (.aload_n 0, 1) := by decide +kernel
theorem dX6_runnerAt_22 : decode cX6_runnerAt 22 = .ok (.getfield 26, 3) := by decide +kernel
theorem dX6_runnerAt_25 : decode cX6_runnerAt 25 = .ok (.iload_n 1, 1) := by decide +kernel
theorem dX6_runnerAt_26 : decode cX6_runnerAt 26 = .ok (.aaload, 1) := by decide +kernel
theorem dX6_runnerAt_27 : decode cX6_runnerAt 27 = .ok (.goto 4, 3) := by decide +kernel
theorem dX6_runnerAt_30 : decode cX6_runnerAt 30 = .ok (.aconst_null, 1) := by decide +kernel
theorem dX6_runnerAt_31 : decode cX6_runnerAt 31 = .ok (.areturn, 1) := by decide +kernel
theorem dX6_isFull_0 : decode cX6_isFull 0 = .ok (.aload_n 0, 1) := by decide +kernel
theorem dX6_isFull_1 : decode cX6_isFull 1 = .ok (.getfield 37, 3) := by decide +kernel
theorem dX6_isFull_4 : decode cX6_isFull 4 = .ok (.aload_n 0, 1) := by decide +kernel
theorem dX6_isFull_5 : decode cX6_isFull 5 = .ok (.getfield 26, 3) := by decide +kernel
theorem dX6_isFull_8 : decode cX6_isFull 8 = .ok (.arraylength, 1) := by decide +kernel
theorem dX6_isFull_9 : decode cX6_isFull 9 = .ok (.if_icmp .lt 7, 3) := by decide +kernel
theorem dX6_isFull_12 : decode cX6_isFull 12 = .ok (.iconst 1, 1) := by decide +kernel
theorem dX6_isFull_13 : decode cX6_isFull 13 = .ok (.goto 4, 3) := by decide +kernel
theorem dX6_isFull_16 : decode cX6_isFull 16 = .ok (.iconst 0, 1) := by decide +kernel
theorem dX6_isFull_17 : decode cX6_isFull 17 = .ok (.ireturn, 1) := by decide +kernel
theorem dX6_hasTimeFor_0 : decode cX6_hasTimeFor 0 = .ok (.aload_n 0, 1) := by decide +kernel
theorem dX6_hasTimeFor_1 : decode cX6_hasTimeFor 1 = .ok (.getfield 34, 3) := by decide +kernel
theorem dX6_hasTimeFor_4 : decode cX6_hasTimeFor 4 = .ok (.iload_n 1, 1) := by decide +kernel
theorem dX6_hasTimeFor_5 : decode cX6_hasTimeFor 5 = .ok (.iadd, 1) := by decide +kernel
theorem dX6_hasTimeFor_6 : decode cX6_hasTimeFor 6 = .ok (.sipush 9999, 3) := by decide +kernel
theorem dX6_hasTimeFor_9 : decode cX6_hasTimeFor 9 = .ok (.if_icmp .gt 7, 3) := by decide +kernel
theorem dX6_hasTimeFor_12 : decode cX6_hasTimeFor 12 = .ok (.iconst 1, 1) := by decide +kernel
theorem dX6_hasTimeFor_13 : decode cX6_hasTimeFor 13 = .ok (.goto 4, 3) := by decide +kernel
theorem dX6_hasTimeFor_16 : decode cX6_hasTimeFor 16 = .ok (.iconst 0, 1) := by decide +kernel
theorem dX6_hasTimeFor_17 : decode cX6_hasTimeFor 17 = .ok (.ireturn, 1) := by decide +kernel
theorem dX6_wheelAt_0 : decode cX6_wheelAt 0 = .ok (.aload_n 0, 1) := by decide +kernel
theorem dX6_wheelAt_1 : decode cX6_wheelAt 1 = .ok (.getfield 9, 3) := by decide +kernel
theorem dX6_wheelAt_4 : decode cX6_wheelAt 4 = .ok (.ifCond .le 12, 3) := by decide +kernel
theorem dX6_wheelAt_7 : decode cX6_wheelAt 7 = .ok (.iload_n 1, 1) := by decide +kernel
theorem dX6_wheelAt_8 : decode cX6_wheelAt 8 = .ok (.aload_n 0, 1) := by decide +kernel
theorem dX6_wheelAt_9 : decode cX6_wheelAt 9 = .ok (.getfield 9, 3) := by decide +kernel
theorem dX6_wheelAt_12 : decode cX6_wheelAt 12 = .ok (.irem, 1) := by decide +kernel
theorem dX6_wheelAt_13 : decode cX6_wheelAt 13 = .ok (.goto 4, 3) := by decide +kernel
theorem dX6_wheelAt_16 : decode cX6_wheelAt 16 = .ok (.iconst 0, 1) := by decide +kernel
theorem dX6_wheelAt_17 : decode cX6_wheelAt 17 = .ok (.ireturn, 1) := by decide +kernel
theorem dX6_changeWheels_0 : decode cX6_changeWheels 0 = .ok (.iconst 0, 1) := by decide +kernel
theorem dX6_changeWheels_1 : decode cX6_changeWheels 1 = .ok (.istore_n 2, 1) := by decide +kernel
theorem dX6_changeWheels_2 : decode cX6_changeWheels 2 = .ok (.iload_n 2, 1) := by decide +kernel
theorem dX6_changeWheels_3 : decode cX6_changeWheels 3 = .ok (.aload_n 0, 1) := by decide +kernel
theorem dX6_changeWheels_4 : decode cX6_changeWheels 4 = .ok (.getfield 37, 3) := by decide +kernel
theorem dX6_changeWheels_7 : decode cX6_changeWheels 7 = .ok (.if_icmp .ge 28, 3) := by decide +kernel
theorem dX6_changeWheels_10 : decode cX6_changeWheels 10 = .ok (.iload_n 2, 1) := by decide +kernel
theorem dX6_changeWheels_11 : decode cX6_changeWheels 11 = .ok (.aload_n 0, 1) := by decide +kernel
theorem dX6_changeWheels_12 : decode cX6_changeWheels 12 = .ok (.getfield 26, 3) := by decide +kernel
theorem dX6_changeWheels_15 : decode cX6_changeWheels 15 = .ok (.arraylength, 1) := by decide +kernel
theorem dX6_changeWheels_16 : decode cX6_changeWheels 16 = .ok (.if_icmp .ge 19, 3) := by decide +kernel
theorem dX6_changeWheels_19 : decode cX6_changeWheels 19 = .ok (.aload_n 0, 1) := by decide +kernel
theorem dX6_changeWheels_20 : decode cX6_changeWheels 20 = .ok (.aload_n 0, 1) := by decide +kernel
theorem dX6_changeWheels_21 : decode cX6_changeWheels 21 = .ok (.getfield 26, 3) := by decide +kernel
theorem dX6_changeWheels_24 : decode cX6_changeWheels 24 = .ok (.iload_n 2, 1) := by decide +kernel
theorem dX6_changeWheels_25 : decode cX6_changeWheels 25 = .ok (.aaload, 1) := by decide +kernel
theorem dX6_changeWheels_26 : decode cX6_changeWheels 26 = .ok (.invokevirtual 47, 3) := by decide +kernel
theorem dX6_changeWheels_29 : decode cX6_changeWheels 29 = .ok (.iinc 2 1, 3) := by decide +kernel
theorem dX6_changeWheels_32 : decode cX6_changeWheels 32 = .ok (.goto (-30), 3) := by decide +kernel
theorem dX6_changeWheels_35 : decode cX6_changeWheels 35 = .ok (.aload_n 0, 1) := by decide +kernel
theorem dX6_changeWheels_36 : decode cX6_changeWheels 36 = .ok (.iconst 0, 1) := by decide +kernel
theorem dX6_changeWheels_37 : decode cX6_changeWheels 37 = .ok (.putfield 37, 3) := by decide +kernel
theorem dX6_changeWheels_40 : decode cX6_changeWheels 40 = .ok (.aload_n 0, 1) := by decide +kernel
theorem dX6_changeWheels_41 : decode cX6_changeWheels 41 = .ok (.iload_n 1, 1) := by decide +kernel
theorem dX6_changeWheels_42 : decode cX6_changeWheels 42 = .ok (.putfield 9, 3) := by decide +kernel
theorem dX6_changeWheels_45 : decode cX6_changeWheels 45 = .ok (.return_, 1) := by decide +kernel
theorem dX6_passHours_0 : decode cX6_passHours 0 = .ok (.iconst 0, 1) := by decide +kernel
theorem dX6_passHours_1 : decode cX6_passHours 1 = .ok (.istore_n 3, 1) := by decide +kernel
theorem dX6_passHours_2 : decode cX6_passHours 2 = .ok (.iconst 0, 1) := by decide +kernel
theorem dX6_passHours_3 : decode cX6_passHours 3 = .ok (.istore 4, 2) := by decide +kernel
theorem dX6_passHours_5 : decode cX6_passHours 5 = .ok (.iload 4, 2) := by decide +kernel
theorem dX6_passHours_7 : decode cX6_passHours 7 = .ok (.iload_n 2, 1) := by decide +kernel
theorem dX6_passHours_8 : decode cX6_passHours 8 = .ok (.if_icmp .ge 66, 3) := by decide +kernel
theorem dX6_passHours_11 : decode cX6_passHours 11 = .ok (.aload_n 0, 1) := by decide +kernel
theorem dX6_passHours_12 : decode cX6_passHours 12 = .ok (.getfield 20, 3) := by decide +kernel
theorem dX6_passHours_15 : decode cX6_passHours 15 = .ok (.astore 5, 2) := by decide +kernel
theorem dX6_passHours_17 : decode cX6_passHours 17 = .ok (.aload 5, 2) := by decide +kernel
theorem dX6_passHours_19 : decode cX6_passHours 19 = .ok (.arraylength, 1) := by decide +kernel
theorem dX6_passHours_20 : decode cX6_passHours 20 = .ok (.istore 6, 2) := by decide +kernel
theorem dX6_passHours_22 : decode cX6_passHours 22 = .ok (.iconst 0, 1) := by decide +kernel
theorem dX6_passHours_23 : decode cX6_passHours 23 = .ok (.istore 7, 2) := by decide +kernel
theorem dX6_passHours_25 : decode cX6_passHours 25 = .ok (.iload 7, 2) := by decide +kernel
theorem dX6_passHours_27 : decode cX6_passHours 27 = .ok (.iload 6, 2) := by decide +kernel
theorem dX6_passHours_29 : decode cX6_passHours 29 = .ok (.if_icmp .ge 25, 3) := by decide +kernel
theorem dX6_passHours_32 : decode cX6_passHours 32 = .ok (.aload 5, 2) := by decide +kernel
theorem dX6_passHours_34 : decode cX6_passHours 34 = .ok (.iload 7, 2) := by decide +kernel
theorem dX6_passHours_36 : decode cX6_passHours 36 = .ok (.aaload, 1) := by decide +kernel
theorem dX6_passHours_37 : decode cX6_passHours 37 = .ok (.astore 8, 2) := by decide +kernel
theorem dX6_passHours_39 : decode cX6_passHours 39 = .ok (.iload_n 3, 1) := by decide +kernel
theorem dX6_passHours_40 : decode cX6_passHours 40 = .ok (.aload 8, 2) := by decide +kernel
theorem dX6_passHours_42 : decode cX6_passHours 42 = .ok (.iload_n 1, 1) := by decide +kernel
theorem dX6_passHours_43 : decode cX6_passHours 43 = .ok (.invokevirtual 50, 3) := by decide +kernel
theorem dX6_passHours_46 : decode cX6_passHours 46 = .ok (.iadd, 1) := by decide +kernel
theorem dX6_passHours_47 : decode cX6_passHours 47 = .ok (.istore_n 3, 1) := by decide +kernel
theorem dX6_passHours_48 : decode cX6_passHours 48 = .ok (.iinc 7 1, 3) := by decide +kernel
theorem dX6_passHours_51 : decode cX6_passHours 51 = .ok (.goto (-26), 3) := by decide +kernel
theorem dX6_passHours_54 : decode cX6_passHours 54 = .ok (.aload_n 0, 1) := by decide +kernel
theorem dX6_passHours_55 : decode cX6_passHours 55 = .ok (.dup, 1) := by decide +kernel
theorem dX6_passHours_56 : decode cX6_passHours 56 = .ok (.getfield 34, 3) := by decide +kernel
theorem dX6_passHours_59 : decode cX6_passHours 59 = .ok (.iconst 1, 1) := by decide +kernel
theorem dX6_passHours_60 : decode cX6_passHours 60 = .ok (.iadd, 1) := by decide +kernel
theorem dX6_passHours_61 : decode cX6_passHours 61 = .ok (.putfield 34, 3) := by decide +kernel
theorem dX6_passHours_64 : decode cX6_passHours 64 = .ok (.aload_n 0, 1) := by decide +kernel
theorem dX6_passHours_65 : decode cX6_passHours 65 = .ok (.invokevirtual 54, 3) := by decide +kernel
theorem dX6_passHours_68 : decode cX6_passHours 68 = .ok (.iinc 4 1, 3) := by decide +kernel
theorem dX6_passHours_71 : decode cX6_passHours 71 = .ok (.goto (-66), 3) := by decide +kernel
theorem dX6_passHours_74 : decode cX6_passHours 74 = .ok (.iload_n 3, 1) := by decide +kernel
theorem dX6_passHours_75 : decode cX6_passHours 75 = .ok (.ireturn, 1) := by decide +kernel
theorem dX6_moveRunners_0 : decode cX6_moveRunners 0 = .ok (.iconst 0, 1) := by decide +kernel
theorem dX6_moveRunners_1 : decode cX6_moveRunners 1 = .ok (.istore_n 1, 1) := by decide +kernel
theorem dX6_moveRunners_2 : decode cX6_moveRunners 2 = .ok (.aload_n 0, 1) := by decide +kernel
theorem dX6_moveRunners_3 : decode cX6_moveRunners 3 = .ok (.getfield 37, 3) := by decide +kernel
theorem dX6_moveRunners_6 : decode cX6_moveRunners 6 = .ok (.istore_n 2, 1) := by decide +kernel
theorem dX6_moveRunners_7 : decode cX6_moveRunners 7 = .ok (.iload_n 2, 1) := by decide +kernel
theorem dX6_moveRunners_8 : decode cX6_moveRunners 8 = .ok (.ifCond .le 53, 3) := by decide +kernel
theorem dX6_moveRunners_11 : decode cX6_moveRunners 11 = .ok (.aload_n 0, 1) := by decide +kernel
theorem dX6_moveRunners_12 : decode cX6_moveRunners 12 = .ok (.iload_n 1, 1) := by decide +kernel
theorem dX6_moveRunners_13 : decode cX6_moveRunners 13 = .ok (.invokevirtual 57, 3) := by decide +kernel
theorem dX6_moveRunners_16 : decode cX6_moveRunners 16 = .ok (.astore_n 3, 1) := by decide +kernel
theorem dX6_moveRunners_17 : decode cX6_moveRunners 17 = .ok (.aload_n 3, 1) := by decide +kernel
theorem dX6_moveRunners_18 : decode cX6_moveRunners 18 = .ok (.ifnonnull 4, 3) := by decide +kernel
theorem dX6_moveRunners_21 : decode cX6_moveRunners 21 = .ok (.return_, 1) := by decide +kernel
theorem dX6_moveRunners_22 : decode cX6_moveRunners 22 = .ok (.aload_n 3, 1) := by decide +kernel
theorem dX6_moveRunners_23 : decode cX6_moveRunners 23 = .ok (.dup, 1) := by decide +kernel
theorem dX6_moveRunners_24 : decode cX6_moveRunners 24 = .ok (.getfield 61, 3) := by decide +kernel
theorem dX6_moveRunners_27 : decode cX6_moveRunners 27 = .ok (.iconst 1, 1) := by decide +kernel
theorem dX6_moveRunners_28 : decode cX6_moveRunners 28 = .ok (.isub, 1) := by decide +kernel
theorem dX6_moveRunners_29 : decode cX6_moveRunners 29 = .ok (.putfield 61, 3) := by decide +kernel
theorem dX6_moveRunners_32 : decode cX6_moveRunners 32 = .ok (.aload_n 3, 1) := by decide +kernel
theorem dX6_moveRunners_33 : decode cX6_moveRunners 33 = .ok (.getfield 61, 3) := by decide +kernel
theorem dX6_moveRunners_36 : decode cX6_moveRunners 36 = .ok (.ifCond .le 9, 3) := by decide +kernel
theorem dX6_moveRunners_39 : decode cX6_moveRunners 39 = .ok (.iinc 1 1, 3) := by decide +kernel
theorem dX6_moveRunners_42 : decode cX6_moveRunners 42 = .ok (.goto 13, 3) := by decide +kernel
theorem dX6_moveRunners_45 : decode cX6_moveRunners 45 = .ok (.aload_n 0, 1) := by decide +kernel
theorem dX6_moveRunners_46 : decode cX6_moveRunners 46 = .ok (.aload_n 3, 1) := by decide +kernel
theorem dX6_moveRunners_47 : decode cX6_moveRunners 47 = .ok (.invokevirtual 64, 3) := by decide +kernel
theorem dX6_moveRunners_50 : decode cX6_moveRunners 50 = .ok (.aload_n 0, 1) := by decide +kernel
theorem dX6_moveRunners_51 : decode cX6_moveRunners 51 = .ok (.iload_n 1, 1) := by decide +kernel
theorem dX6_moveRunners_52 : decode cX6_moveRunners 52 = .ok (.invokevirtual 67, 3) := by decide +kernel
theorem dX6_moveRunners_55 : decode cX6_moveRunners 55 = .ok (.iinc 2 (-1), 3) := by decide +kernel
theorem dX6_moveRunners_58 : decode cX6_moveRunners 58 = .ok (.goto (-51), 3) := by decide +kernel
theorem dX6_moveRunners_61 : decode cX6_moveRunners 61 = .ok (.return_, 1) := by decide +kernel
theorem dX6_sendRunner_0 : decode cX6_sendRunner 0 = .ok (.aload_n 0, 1) := by decide +kernel
theorem dX6_sendRunner_1 : decode cX6_sendRunner 1 = .ok (.iload_n 1, 1) := by decide +kernel
theorem dX6_sendRunner_2 : decode cX6_sendRunner 2 = .ok (.invokevirtual 70, 3) := by decide +kernel
theorem dX6_sendRunner_5 : decode cX6_sendRunner 5 = .ok (.astore_n 2, 1) := by decide +kernel
theorem dX6_sendRunner_6 : decode cX6_sendRunner 6 = .ok (.aload_n 2, 1) := by decide +kernel
theorem dX6_sendRunner_7 : decode cX6_sendRunner 7 = .ok (.ifnonnull 6, 3) := by decide +kernel
theorem dX6_sendRunner_10 : decode cX6_sendRunner 10 = .ok (.ldc 74, 2) := by decide +kernel
theorem dX6_sendRunner_12 : decode cX6_sendRunner 12 = .ok (.ireturn, 1) := by decide +kernel
theorem dX6_sendRunner_13 : decode cX6_sendRunner 13 = .ok (.aload_n 0, 1) := by decide +kernel
theorem dX6_sendRunner_14 : decode cX6_sendRunner 14 = .ok (.invokevirtual 75, 3) := by decide +kernel
theorem dX6_sendRunner_17 : decode cX6_sendRunner 17 = .ok (.astore_n 3, 1) := by decide +kernel
theorem dX6_sendRunner_18 : decode cX6_sendRunner 18 = .ok (.aload_n 3, 1) := by decide +kernel
theorem dX6_sendRunner_19 : decode cX6_sendRunner 19 = .ok (.ifnonnull 6, 3) := by decide +kernel
theorem dX6_sendRunner_22 : decode cX6_sendRunner 22 = .ok (.ldc 79, 2) := by decide +kernel
theorem dX6_sendRunner_24 : decode cX6_sendRunner 24 = .ok (.ireturn, 1) := by decide +kernel
theorem dX6_sendRunner_25 : decode cX6_sendRunner 25 = .ok (.aload_n 3, 1) := by decide +kernel
theorem dX6_sendRunner_26 : decode cX6_sendRunner 26 = .ok (.iload_n 1, 1) := by decide +kernel
theorem dX6_sendRunner_27 : decode cX6_sendRunner 27 = .ok (.putfield 80, 3) := by decide +kernel
theorem dX6_sendRunner_30 : decode cX6_sendRunner 30 = .ok (.aload_n 3, 1) := by decide +kernel
theorem dX6_sendRunner_31 : decode cX6_sendRunner 31 = .ok (.aload_n 2, 1) := by decide +kernel
theorem dX6_sendRunner_32 : decode cX6_sendRunner 32 = .ok (.getfield 83, 3) := by decide +kernel
theorem dX6_sendRunner_35 : decode cX6_sendRunner 35 = .ok (.putfield 86, 3) := by decide +kernel
theorem dX6_sendRunner_38 : decode cX6_sendRunner 38 = .ok (.aload_n 3, 1) := by decide +kernel
theorem dX6_sendRunner_39 : decode cX6_sendRunner 39 = .ok (.aload_n 0, 1) := by decide +kernel
theorem dX6_sendRunner_40 : decode cX6_sendRunner 40 = .ok (.getfield 34, 3) := by decide +kernel
theorem dX6_sendRunner_43 : decode cX6_sendRunner 43 = .ok (.putfield 87, 3) := by decide +kernel
theorem dX6_sendRunner_46 : decode cX6_sendRunner 46 = .ok (.aload_n 3, 1) := by decide +kernel
theorem dX6_sendRunner_47 : decode cX6_sendRunner 47 = .ok (.aload_n 0, 1) := by decide +kernel
theorem dX6_sendRunner_48 : decode cX6_sendRunner 48 = .ok (.getfield 20, 3) := by decide +kernel
theorem dX6_sendRunner_51 : decode cX6_sendRunner 51 = .ok (.iconst 0, 1) := by decide +kernel
theorem dX6_sendRunner_52 : decode cX6_sendRunner 52 = .ok (.aaload, 1) := by decide +kernel
theorem dX6_sendRunner_53 : decode cX6_sendRunner 53 = .ok (.getfield 90, 3) := by decide +kernel
theorem dX6_sendRunner_56 : decode cX6_sendRunner 56 = .ok (.putfield 93, 3) := by decide +kernel
theorem dX6_sendRunner_59 : decode cX6_sendRunner 59 = .ok (.aload_n 3, 1) := by decide +kernel
theorem dX6_sendRunner_60 : decode cX6_sendRunner 60 = .ok (.aload_n 2, 1) := by decide +kernel
theorem dX6_sendRunner_61 : decode cX6_sendRunner 61 = .ok (.getfield 96, 3) := by decide +kernel
theorem dX6_sendRunner_64 : decode cX6_sendRunner 64 = .ok (.putfield 61, 3) := by decide +kernel
theorem dX6_sendRunner_67 : decode cX6_sendRunner 67 = .ok (.aload_n 3, 1) := by decide +kernel
theorem dX6_sendRunner_68 : decode cX6_sendRunner 68 = .ok (.getfield 61, 3) := by decide +kernel
theorem dX6_sendRunner_71 : decode cX6_sendRunner 71 = .ok (.ifCond .ne 18, 3) := by decide +kernel
theorem dX6_sendRunner_74 : decode cX6_sendRunner 74 = .ok (.aload_n 0, 1) := by decide +kernel
theorem dX6_sendRunner_75 : decode cX6_sendRunner 75 = .ok (.aload_n 3, 1) := by decide +kernel
theorem dX6_sendRunner_76 : decode cX6_sendRunner 76 = .ok (.invokevirtual 64, 3) := by decide +kernel
theorem dX6_sendRunner_79 : decode cX6_sendRunner 79 = .ok (.aload_n 0, 1) := by decide +kernel
theorem dX6_sendRunner_80 : decode cX6_sendRunner 80 = .ok (.aload_n 0, 1) := by decide +kernel
theorem dX6_sendRunner_81 : decode cX6_sendRunner 81 = .ok (.getfield 37, 3) := by decide +kernel
theorem dX6_sendRunner_84 : decode cX6_sendRunner 84 = .ok (.iconst 1, 1) := by decide +kernel
theorem dX6_sendRunner_85 : decode cX6_sendRunner 85 = .ok (.isub, 1) := by decide +kernel
theorem dX6_sendRunner_86 : decode cX6_sendRunner 86 = .ok (.invokevirtual 67, 3) := by decide +kernel
theorem dX6_sendRunner_89 : decode cX6_sendRunner 89 = .ok (.aload_n 0, 1) := by decide +kernel
theorem dX6_sendRunner_90 : decode cX6_sendRunner 90 = .ok (.aload_n 2, 1) := by decide +kernel
theorem dX6_sendRunner_91 : decode cX6_sendRunner 91 = .ok (.getfield 83, 3) := by decide +kernel
theorem dX6_sendRunner_94 : decode cX6_sendRunner 94 = .ok (.invokevirtual 99, 3) := by decide +kernel
theorem dX6_sendRunner_97 : decode cX6_sendRunner 97 = .ok (.ireturn, 1) := by decide +kernel
theorem dX6_addSecondOf_0 : decode cX6_addSecondOf 0 = .ok (.aload_n 0, 1) := by decide +kernel
theorem dX6_addSecondOf_1 : decode cX6_addSecondOf 1 = .ok (.invokevirtual 75, 3) := by decide +kernel
theorem dX6_addSecondOf_4 : decode cX6_addSecondOf 4 = .ok (.astore_n 2, 1) := by decide +kernel
theorem dX6_addSecondOf_5 : decode cX6_addSecondOf 5 = .ok (.aload_n 2, 1) := by decide +kernel
theorem dX6_addSecondOf_6 : decode cX6_addSecondOf 6 = .ok (.ifnull 18, 3) := by decide +kernel
theorem dX6_addSecondOf_9 : decode cX6_addSecondOf 9 = .ok (.aload_n 2, 1) := by decide +kernel
theorem dX6_addSecondOf_10 : decode cX6_addSecondOf 10 = .ok (.aload_n 1, 1) := by decide +kernel
theorem dX6_addSecondOf_11 : decode cX6_addSecondOf 11 = .ok (.invokevirtual 44, 3) := by decide +kernel
theorem dX6_addSecondOf_14 : decode cX6_addSecondOf 14 = .ok (.aload_n 2, 1) := by decide +kernel
theorem dX6_addSecondOf_15 : decode cX6_addSecondOf 15 = .ok (.dup, 1) := by decide +kernel
theorem dX6_addSecondOf_16 : decode cX6_addSecondOf 16 = .ok (.getfield 61, 3) := by decide +kernel
theorem dX6_addSecondOf_19 : decode cX6_addSecondOf 19 = .ok (.iconst 1, 1) := by decide +kernel
theorem dX6_addSecondOf_20 : decode cX6_addSecondOf 20 = .ok (.iadd, 1) := by decide +kernel
theorem dX6_addSecondOf_21 : decode cX6_addSecondOf 21 = .ok (.putfield 61, 3) := by decide +kernel
theorem dX6_addSecondOf_24 : decode cX6_addSecondOf 24 = .ok (.return_, 1) := by decide +kernel
theorem dX6_addRunner_0 : decode cX6_addRunner 0 = .ok (.aload_n 0, 1) := by decide +kernel
theorem dX6_addRunner_1 : decode cX6_addRunner 1 = .ok (.getfield 37, 3) := by decide +kernel
theorem dX6_addRunner_4 : decode cX6_addRunner 4 = .ok (.ifCond .lt 15, 3) := by decide +kernel
theorem dX6_addRunner_7 : decode cX6_addRunner 7 = .ok (.aload_n 0, 1) := by decide +kernel
theorem dX6_addRunner_8 : decode cX6_addRunner 8 = .ok (.getfield 37, 3) := by decide +kernel
theorem dX6_addRunner_11 : decode cX6_addRunner 11 = .ok (.aload_n 0, 1) := by decide +kernel
theorem dX6_addRunner_12 : decode cX6_addRunner 12 = .ok (.getfield 26, 3) := by decide +kernel
theorem dX6_addRunner_15 : decode cX6_addRunner 15 = .ok (.arraylength, 1) := by decide +kernel
theorem dX6_addRunner_16 : decode cX6_addRunner 16 = .ok (.if_icmp .lt 5, 3) := by decide +kernel
theorem dX6_addRunner_19 : decode cX6_addRunner 19 = .ok (.aconst_null, 1) := by decide +kernel
theorem dX6_addRunner_20 : decode cX6_addRunner 20 = .ok (.areturn, 1) := by decide +kernel
theorem dX6_addRunner_21 : decode cX6_addRunner 21 = .ok (.aload_n 0, 1) := by decide +kernel
theorem dX6_addRunner_22 : decode cX6_addRunner 22 = .ok (.getfield 26, 3) := by decide +kernel
theorem dX6_addRunner_25 : decode cX6_addRunner 25 = .ok (.aload_n 0, 1) := by decide +kernel
theorem dX6_addRunner_26 : decode cX6_addRunner 26 = .ok (.getfield 37, 3) := by decide +kernel
theorem dX6_addRunner_29 : decode cX6_addRunner 29 = .ok (.aaload, 1) := by decide +kernel
theorem dX6_addRunner_30 : decode cX6_addRunner 30 = .ok (.astore_n 1, 1) := by decide +kernel
theorem dX6_addRunner_31 : decode cX6_addRunner 31 = .ok (.aload_n 0, 1) := by decide +kernel
theorem dX6_addRunner_32 : decode cX6_addRunner 32 = .ok (.dup, 1) := by decide +kernel
theorem dX6_addRunner_33 : decode cX6_addRunner 33 = .ok (.getfield 37, 3) := by decide +kernel
theorem dX6_addRunner_36 : decode cX6_addRunner 36 = .ok (.iconst 1, 1) := by decide +kernel
theorem dX6_addRunner_37 : decode cX6_addRunner 37 = .ok (.iadd, 1) := by decide +kernel
theorem dX6_addRunner_38 : decode cX6_addRunner 38 = .ok (.putfield 37, 3) := by decide +kernel
theorem dX6_addRunner_41 : decode cX6_addRunner 41 = .ok (.aload_n 1, 1) := by decide +kernel
theorem dX6_addRunner_42 : decode cX6_addRunner 42 = .ok (.areturn, 1) := by decide +kernel
theorem dX6_removeRunner_0 : decode cX6_removeRunner 0 = .ok (.aload_n 0, 1) := by decide +kernel
theorem dX6_removeRunner_1 : decode cX6_removeRunner 1 = .ok (.iload_n 1, 1) := by decide +kernel
theorem dX6_removeRunner_2 : decode cX6_removeRunner 2 = .ok (.invokevirtual 57, 3) := by decide +kernel
theorem dX6_removeRunner_5 : decode cX6_removeRunner 5 = .ok (.astore_n 2, 1) := by decide +kernel
theorem dX6_removeRunner_6 : decode cX6_removeRunner 6 = .ok (.aload_n 0, 1) := by decide +kernel
theorem dX6_removeRunner_7 : decode cX6_removeRunner 7 = .ok (.getfield 37, 3) := by decide +kernel
theorem dX6_removeRunner_10 : decode cX6_removeRunner 10 = .ok (.iconst 1, 1) := by decide +kernel
theorem dX6_removeRunner_11 : decode cX6_removeRunner 11 = .ok (.isub, 1) := by decide +kernel
theorem dX6_removeRunner_12 : decode cX6_removeRunner 12 = .ok (.istore_n 3, 1) := by decide +kernel
theorem dX6_removeRunner_13 : decode cX6_removeRunner 13 = .ok (.aload_n 2, 1) := by decide +kernel
theorem dX6_removeRunner_14 : decode cX6_removeRunner 14 = .ok (.ifnull 12, 3) := by decide +kernel
theorem dX6_removeRunner_17 : decode cX6_removeRunner 17 = .ok (.iload_n 3, 1) := by decide +kernel
theorem dX6_removeRunner_18 : decode cX6_removeRunner 18 = .ok (.aload_n 0, 1) := by decide +kernel
theorem dX6_removeRunner_19 : decode cX6_removeRunner 19 = .ok (.getfield 26, 3) := by decide +kernel
theorem dX6_removeRunner_22 : decode cX6_removeRunner 22 = .ok (.arraylength, 1) := by decide +kernel
theorem dX6_removeRunner_23 : decode cX6_removeRunner 23 = .ok (.if_icmp .lt 4, 3) := by decide +kernel
theorem dX6_removeRunner_26 : decode cX6_removeRunner 26 = .ok (.return_, 1) := by decide +kernel
theorem dX6_removeRunner_27 : decode cX6_removeRunner 27 = .ok (.iload_n 1, 1) := by decide +kernel
theorem dX6_removeRunner_28 : decode cX6_removeRunner 28 = .ok (.istore 4, 2) := by decide +kernel
theorem dX6_removeRunner_30 : decode cX6_removeRunner 30 = .ok (.iload 4, 2) := by decide +kernel
theorem dX6_removeRunner_32 : decode cX6_removeRunner 32 = .ok (.iload_n 3, 1) := by decide +kernel
theorem dX6_removeRunner_33 : decode cX6_removeRunner 33 = .ok (.if_icmp .ge 25, 3) := by decide +kernel
theorem dX6_removeRunner_36 : decode cX6_removeRunner 36 = .ok (.aload_n 0, 1) := by decide +kernel
theorem dX6_removeRunner_37 : decode cX6_removeRunner 37 = .ok (.getfield 26, 3) := by decide +kernel
theorem dX6_removeRunner_40 : decode cX6_removeRunner 40 = .ok (.iload 4, 2) := by decide +kernel
theorem dX6_removeRunner_42 : decode cX6_removeRunner 42 = .ok (.aload_n 0, 1) := by decide +kernel
theorem dX6_removeRunner_43 : decode cX6_removeRunner 43 = .ok (.getfield 26, 3) := by decide +kernel
theorem dX6_removeRunner_46 : decode cX6_removeRunner 46 = .ok (.iload 4, 2) := by decide +kernel
theorem dX6_removeRunner_48 : decode cX6_removeRunner 48 = .ok (.iconst 1, 1) := by decide +kernel
theorem dX6_removeRunner_49 : decode cX6_removeRunner 49 = .ok (.iadd, 1) := by decide +kernel
theorem dX6_removeRunner_50 : decode cX6_removeRunner 50 = .ok (.aaload, 1) := by decide +kernel
theorem dX6_removeRunner_51 : decode cX6_removeRunner 51 = .ok (.aastore, 1) := by decide +kernel
theorem dX6_removeRunner_52 : decode cX6_removeRunner 52 = .ok (.iinc 4 1, 3) := by decide +kernel
theorem dX6_removeRunner_55 : decode cX6_removeRunner 55 = .ok (.goto (-25), 3) := by decide +kernel
theorem dX6_removeRunner_58 : decode cX6_removeRunner 58 = .ok (.aload_n 0, 1) := by decide +kernel
theorem dX6_removeRunner_59 : decode cX6_removeRunner 59 = .ok (.getfield 26, 3) := by decide +kernel
theorem dX6_removeRunner_62 : decode cX6_removeRunner 62 = .ok (.iload_n 3, 1) := by decide +kernel
theorem dX6_removeRunner_63 : decode cX6_removeRunner 63 = .ok (.aload_n 2, 1) := by decide +kernel
theorem dX6_removeRunner_64 : decode cX6_removeRunner 64 = .ok (.aastore, 1) := by decide +kernel
theorem dX6_removeRunner_65 : decode cX6_removeRunner 65 = .ok (.aload_n 0, 1) := by decide +kernel
theorem dX6_removeRunner_66 : decode cX6_removeRunner 66 = .ok (.iload_n 3, 1) := by decide +kernel
theorem dX6_removeRunner_67 : decode cX6_removeRunner 67 = .ok (.putfield 37, 3) := by decide +kernel
theorem dX6_removeRunner_70 : decode cX6_removeRunner 70 = .ok (.return_, 1) := by decide +kernel
theorem dX6_countAsLost_0 : decode cX6_countAsLost 0 = .ok (.aload_n 0, 1) := by decide +kernel
theorem dX6_countAsLost_1 : decode cX6_countAsLost 1 = .ok (.aload_n 1, 1) := by decide +kernel
theorem dX6_countAsLost_2 : decode cX6_countAsLost 2 = .ok (.getfield 80, 3) := by decide +kernel
theorem dX6_countAsLost_5 : decode cX6_countAsLost 5 = .ok (.invokevirtual 70, 3) := by decide +kernel
theorem dX6_countAsLost_8 : decode cX6_countAsLost 8 = .ok (.astore_n 2, 1) := by decide +kernel
theorem dX6_countAsLost_9 : decode cX6_countAsLost 9 = .ok (.aload_n 2, 1) := by decide +kernel
theorem dX6_countAsLost_10 : decode cX6_countAsLost 10 = .ok (.ifnull 16, 3) := by decide +kernel
theorem dX6_countAsLost_13 : decode cX6_countAsLost 13 = .ok (.aload_n 2, 1) := by decide +kernel
theorem dX6_countAsLost_14 : decode cX6_countAsLost 14 = .ok (.getfield 102, 3) := by decide +kernel
theorem dX6_countAsLost_17 : decode cX6_countAsLost 17 = .ok (.dup, 1) := by decide +kernel
theorem dX6_countAsLost_18 : decode cX6_countAsLost 18 = .ok (.getfield 106, 3) := by decide +kernel
theorem dX6_countAsLost_21 : decode cX6_countAsLost 21 = .ok (.iconst 1, 1) := by decide +kernel
theorem dX6_countAsLost_22 : decode cX6_countAsLost 22 = .ok (.iadd, 1) := by decide +kernel
theorem dX6_countAsLost_23 : decode cX6_countAsLost 23 = .ok (.putfield 106, 3) := by decide +kernel
theorem dX6_countAsLost_26 : decode cX6_countAsLost 26 = .ok (.return_, 1) := by decide +kernel
theorem dX6_longestWay_0 : decode cX6_longestWay 0 = .ok (.iconst 0, 1) := by decide +kernel
theorem dX6_longestWay_1 : decode cX6_longestWay 1 = .ok (.istore_n 1, 1) := by decide +kernel
theorem dX6_longestWay_2 : decode cX6_longestWay 2 = .ok (.iconst 0, 1) := by decide +kernel
theorem dX6_longestWay_3 : decode cX6_longestWay 3 = .ok (.istore_n 2, 1) := by decide +kernel
theorem dX6_longestWay_4 : decode cX6_longestWay 4 = .ok (.iload_n 2, 1) := by decide +kernel
theorem dX6_longestWay_5 : decode cX6_longestWay 5 = .ok (.aload_n 0, 1) := by decide +kernel
theorem dX6_longestWay_6 : decode cX6_longestWay 6 = .ok (.getfield 37, 3) := by decide +kernel
theorem dX6_longestWay_9 : decode cX6_longestWay 9 = .ok (.if_icmp .ge 32, 3) := by decide +kernel
theorem dX6_longestWay_12 : decode cX6_longestWay 12 = .ok (.iload_n 2, 1) := by decide +kernel
theorem dX6_longestWay_13 : decode cX6_longestWay 13 = .ok (.aload_n 0, 1) := by decide +kernel
theorem dX6_longestWay_14 : decode cX6_longestWay 14 = .ok (.getfield 26, 3) := by decide +kernel
theorem dX6_longestWay_17 : decode cX6_longestWay 17 = .ok (.arraylength, 1) := by decide +kernel
theorem dX6_longestWay_18 : decode cX6_longestWay 18 = .ok (.if_icmp .ge 23, 3) := by decide +kernel
theorem dX6_longestWay_21 : decode cX6_longestWay 21 = .ok (.iload_n 1, 1) := by decide +kernel
theorem dX6_longestWay_22 : decode cX6_longestWay 22 = .ok (.aload_n 0, 1) := by decide +kernel
theorem dX6_longestWay_23 : decode cX6_longestWay 23 = .ok (.getfield 26, 3) := by decide +kernel
theorem dX6_longestWay_26 : decode cX6_longestWay 26 = .ok (.iload_n 2, 1) := by decide +kernel
theorem dX6_longestWay_27 : decode cX6_longestWay 27 = .ok (.aaload, 1) := by decide +kernel
theorem dX6_longestWay_28 : decode cX6_longestWay 28 = .ok (.getfield 61, 3) := by decide +kernel
theorem dX6_longestWay_31 : decode cX6_longestWay 31 = .ok (.invokestatic 111, 3) := by decide +kernel
theorem dX6_longestWay_34 : decode cX6_longestWay 34 = .ok (.istore_n 1, 1) := by decide +kernel
theorem dX6_longestWay_35 : decode cX6_longestWay 35 = .ok (.iinc 2 1, 3) := by decide +kernel
theorem dX6_longestWay_38 : decode cX6_longestWay 38 = .ok (.goto (-34), 3) := by decide +kernel
theorem dX6_longestWay_41 : decode cX6_longestWay 41 = .ok (.iload_n 1, 1) := by decide +kernel
theorem dX6_longestWay_42 : decode cX6_longestWay 42 = .ok (.ireturn, 1) := by decide +kernel
theorem dX6_hear_0 : decode cX6_hear 0 = .ok (.aload_n 0, 1) := by decide +kernel
theorem dX6_hear_1 : decode cX6_hear 1 = .ok (.aload_n 1, 1) := by decide +kernel
theorem dX6_hear_2 : decode cX6_hear 2 = .ok (.getfield 80, 3) := by decide +kernel
theorem dX6_hear_5 : decode cX6_hear 5 = .ok (.invokevirtual 70, 3) := by decide +kernel
theorem dX6_hear_8 : decode cX6_hear 8 = .ok (.astore_n 2, 1) := by decide +kernel
theorem dX6_hear_9 : decode cX6_hear 9 = .ok (.aload_n 2, 1) := by decide +kernel
theorem dX6_hear_10 : decode cX6_hear 10 = .ok (.ifnonnull 4, 3) := by decide +kernel
theorem dX6_hear_13 : decode cX6_hear 13 = .ok (.return_, 1) := by decide +kernel
theorem dX6_hear_14 : decode cX6_hear 14 = .ok (.aload_n 2, 1) := by decide +kernel
theorem dX6_hear_15 : decode cX6_hear 15 = .ok (.getfield 102, 3) := by decide +kernel
theorem dX6_hear_18 : decode cX6_hear 18 = .ok (.astore_n 3, 1) := by decide +kernel
theorem dX6_hear_19 : decode cX6_hear 19 = .ok (.aload_n 1, 1) := by decide +kernel
theorem dX6_hear_20 : decode cX6_hear 20 = .ok (.getfield 87, 3) := by decide +kernel
theorem dX6_hear_23 : decode cX6_hear 23 = .ok (.aload_n 3, 1) := by decide +kernel
theorem dX6_hear_24 : decode cX6_hear 24 = .ok (.getfield 117, 3) := by decide +kernel
theorem dX6_hear_27 : decode cX6_hear 27 = .ok (.if_icmp .ge 16, 3) := by decide +kernel
theorem dX6_hear_30 : decode cX6_hear 30 = .ok (.aload_n 3, 1) := by decide +kernel
theorem dX6_hear_31 : decode cX6_hear 31 = .ok (.dup, 1) := by decide +kernel
theorem dX6_hear_32 : decode cX6_hear 32 = .ok (.getfield 120, 3) := by decide +kernel
theorem dX6_hear_35 : decode cX6_hear 35 = .ok (.iconst 1, 1) := by decide +kernel
theorem dX6_hear_36 : decode cX6_hear 36 = .ok (.iadd, 1) := by decide +kernel
theorem dX6_hear_37 : decode cX6_hear 37 = .ok (.putfield 120, 3) := by decide +kernel
theorem dX6_hear_40 : decode cX6_hear 40 = .ok (.goto 102, 3) := by decide +kernel
theorem dX6_hear_43 : decode cX6_hear 43 = .ok (.aload_n 3, 1) := by decide +kernel
theorem dX6_hear_44 : decode cX6_hear 44 = .ok (.getfield 123, 3) := by decide +kernel
theorem dX6_hear_47 : decode cX6_hear 47 = .ok (.ifCond .le 46, 3) := by decide +kernel
theorem dX6_hear_50 : decode cX6_hear 50 = .ok (.aload_n 1, 1) := by decide +kernel
theorem dX6_hear_51 : decode cX6_hear 51 = .ok (.getfield 87, 3) := by decide +kernel
theorem dX6_hear_54 : decode cX6_hear 54 = .ok (.aload_n 3, 1) := by decide +kernel
theorem dX6_hear_55 : decode cX6_hear 55 = .ok (.getfield 117, 3) := by decide +kernel
theorem dX6_hear_58 : decode cX6_hear 58 = .ok (.if_icmp .ne 35, 3) := by decide +kernel
theorem dX6_hear_61 : decode cX6_hear 61 = .ok (.aload_n 0, 1) := by decide +kernel
theorem dX6_hear_62 : decode cX6_hear 62 = .ok (.aload_n 1, 1) := by decide +kernel
theorem dX6_hear_63 : decode cX6_hear 63 = .ok (.getfield 86, 3) := by decide +kernel
theorem dX6_hear_66 : decode cX6_hear 66 = .ok (.invokevirtual 99, 3) := by decide +kernel
theorem dX6_hear_69 : decode cX6_hear 69 = .ok (.aload_n 0, 1) := by decide +kernel
theorem dX6_hear_70 : decode cX6_hear 70 = .ok (.aload_n 3, 1) := by decide +kernel
theorem dX6_hear_71 : decode cX6_hear 71 = .ok (.getfield 126, 3) := by decide +kernel
theorem dX6_hear_74 : decode cX6_hear 74 = .ok (.invokevirtual 99, 3) := by decide +kernel
theorem dX6_hear_77 : decode cX6_hear 77 = .ok (.if_icmp .ne 16, 3) := by decide +kernel
theorem dX6_hear_80 : decode cX6_hear 80 = .ok (.aload_n 3, 1) := by decide +kernel
theorem dX6_hear_81 : decode cX6_hear 81 = .ok (.dup, 1) := by decide +kernel
theorem dX6_hear_82 : decode cX6_hear 82 = .ok (.getfield 129, 3) := by decide +kernel
theorem dX6_hear_85 : decode cX6_hear 85 = .ok (.iconst 1, 1) := by decide +kernel
theorem dX6_hear_86 : decode cX6_hear 86 = .ok (.iadd, 1) := by decide +kernel
theorem dX6_hear_87 : decode cX6_hear 87 = .ok (.putfield 129, 3) := by decide +kernel
theorem dX6_hear_90 : decode cX6_hear 90 = .ok (.goto 52, 3) := by decide +kernel
theorem dX6_hear_93 : decode cX6_hear 93 = .ok (.aload_n 3, 1) := by decide +kernel
theorem dX6_hear_94 : decode cX6_hear 94 = .ok (.dup, 1) := by decide +kernel
theorem dX6_hear_95 : decode cX6_hear 95 = .ok (.getfield 132, 3) := by decide +kernel
theorem dX6_hear_98 : decode cX6_hear 98 = .ok (.aload_n 0, 1) := by decide +kernel
theorem dX6_hear_99 : decode cX6_hear 99 = .ok (.aload_n 2, 1) := by decide +kernel
theorem dX6_hear_100 : decode cX6_hear 100 = .ok (.aload_n 1, 1) := by decide +kernel
theorem dX6_hear_101 : decode cX6_hear 101 = .ok (.invokevirtual 135, 3) := by decide +kernel
theorem dX6_hear_104 : decode cX6_hear 104 = .ok (.iadd, 1) := by decide +kernel
theorem dX6_hear_105 : decode cX6_hear 105 = .ok (.putfield 132, 3) := by decide +kernel
theorem dX6_hear_108 : decode cX6_hear 108 = .ok (.aload_n 3, 1) := by decide +kernel
theorem dX6_hear_109 : decode cX6_hear 109 = .ok (.dup, 1) := by decide +kernel
theorem dX6_hear_110 : decode cX6_hear 110 = .ok (.getfield 123, 3) := by decide +kernel
theorem dX6_hear_113 : decode cX6_hear 113 = .ok (.iconst 1, 1) := by decide +kernel
theorem dX6_hear_114 : decode cX6_hear 114 = .ok (.iadd, 1) := by decide +kernel
theorem dX6_hear_115 : decode cX6_hear 115 = .ok (.putfield 123, 3) := by decide +kernel
theorem dX6_hear_118 : decode cX6_hear 118 = .ok (.aload_n 3, 1) := by decide +kernel
theorem dX6_hear_119 : decode cX6_hear 119 = .ok (.aload_n 1, 1) := by decide +kernel
theorem dX6_hear_120 : decode cX6_hear 120 = .ok (.getfield 87, 3) := by decide +kernel
theorem dX6_hear_123 : decode cX6_hear 123 = .ok (.putfield 117, 3) := by decide +kernel
theorem dX6_hear_126 : decode cX6_hear 126 = .ok (.aload_n 3, 1) := by decide +kernel
theorem dX6_hear_127 : decode cX6_hear 127 = .ok (.aload_n 1, 1) := by decide +kernel
theorem dX6_hear_128 : decode cX6_hear 128 = .ok (.getfield 86, 3) := by decide +kernel
theorem dX6_hear_131 : decode cX6_hear 131 = .ok (.putfield 126, 3) := by decide +kernel
theorem dX6_hear_134 : decode cX6_hear 134 = .ok (.aload_n 3, 1) := by decide +kernel
theorem dX6_hear_135 : decode cX6_hear 135 = .ok (.aload_n 1, 1) := by decide +kernel
theorem dX6_hear_136 : decode cX6_hear 136 = .ok (.getfield 93, 3) := by decide +kernel
theorem dX6_hear_139 : decode cX6_hear 139 = .ok (.putfield 139, 3) := by decide +kernel
theorem dX6_hear_142 : decode cX6_hear 142 = .ok (.return_, 1) := by decide +kernel
theorem dX6_wentOn_0 : decode cX6_wentOn 0 = .ok (.aload_n 0, 1) := by decide +kernel
theorem dX6_wentOn_1 : decode cX6_wentOn 1 = .ok (.aload_n 2, 1) := by decide +kernel
theorem dX6_wentOn_2 : decode cX6_wentOn 2 = .ok (.getfield 86, 3) := by decide +kernel
theorem dX6_wentOn_5 : decode cX6_wentOn 5 = .ok (.invokevirtual 99, 3) := by decide +kernel
theorem dX6_wentOn_8 : decode cX6_wentOn 8 = .ok (.aload_n 0, 1) := by decide +kernel
theorem dX6_wentOn_9 : decode cX6_wentOn 9 = .ok (.aload_n 1, 1) := by decide +kernel
theorem dX6_wentOn_10 : decode cX6_wentOn 10 = .ok (.getfield 102, 3) := by decide +kernel
theorem dX6_wentOn_13 : decode cX6_wentOn 13 = .ok (.getfield 126, 3) := by decide +kernel
theorem dX6_wentOn_16 : decode cX6_wentOn 16 = .ok (.invokevirtual 99, 3) := by decide +kernel
theorem dX6_wentOn_19 : decode cX6_wentOn 19 = .ok (.isub, 1) := by decide +kernel
theorem dX6_wentOn_20 : decode cX6_wentOn 20 = .ok (.istore_n 3, 1) := by decide +kernel
theorem dX6_wentOn_21 : decode cX6_wentOn 21 = .ok (.iload_n 3, 1) := by decide +kernel
theorem dX6_wentOn_22 : decode cX6_wentOn 22 = .ok (.ifCond .ge 10, 3) := by decide +kernel
theorem dX6_wentOn_25 : decode cX6_wentOn 25 = .ok (.iload_n 3, 1) := by decide +kernel
theorem dX6_wentOn_26 : decode cX6_wentOn 26 = .ok (.aload_n 0, 1) := by decide +kernel
theorem dX6_wentOn_27 : decode cX6_wentOn 27 = .ok (.getfield 9, 3) := by decide +kernel
theorem dX6_wentOn_30 : decode cX6_wentOn 30 = .ok (.iadd, 1) := by decide +kernel
theorem dX6_wentOn_31 : decode cX6_wentOn 31 = .ok (.istore_n 3, 1) := by decide +kernel
theorem dX6_wentOn_32 : decode cX6_wentOn 32 = .ok (.aload_n 0, 1) := by decide +kernel
theorem dX6_wentOn_33 : decode cX6_wentOn 33 = .ok (.getfield 15, 3) := by decide +kernel
theorem dX6_wentOn_36 : decode cX6_wentOn 36 = .ok (.iconst 1, 1) := by decide +kernel
theorem dX6_wentOn_37 : decode cX6_wentOn 37 = .ok (.if_icmp .ne 23, 3) := by decide +kernel
theorem dX6_wentOn_40 : decode cX6_wentOn 40 = .ok (.iload_n 3, 1) := by decide +kernel
theorem dX6_wentOn_41 : decode cX6_wentOn 41 = .ok (.aload_n 0, 1) := by decide +kernel
theorem dX6_wentOn_42 : decode cX6_wentOn 42 = .ok (.getfield 9, 3) := by decide +kernel
theorem dX6_wentOn_45 : decode cX6_wentOn 45 = .ok (.aload_n 0, 1) := by decide +kernel
theorem dX6_wentOn_46 : decode cX6_wentOn 46 = .ok (.aload_n 0, 1) := by decide +kernel
theorem dX6_wentOn_47 : decode cX6_wentOn 47 = .ok (.aload_n 1, 1) := by decide +kernel
theorem dX6_wentOn_48 : decode cX6_wentOn 48 = .ok (.aload_n 2, 1) := by decide +kernel
theorem dX6_wentOn_49 : decode cX6_wentOn 49 = .ok (.invokevirtual 142, 3) := by decide +kernel
theorem dX6_wentOn_52 : decode cX6_wentOn 52 = .ok (.iload_n 3, 1) := by decide +kernel
theorem dX6_wentOn_53 : decode cX6_wentOn 53 = .ok (.isub, 1) := by decide +kernel
theorem dX6_wentOn_54 : decode cX6_wentOn 54 = .ok (.invokevirtual 145, 3) := by decide +kernel
theorem dX6_wentOn_57 : decode cX6_wentOn 57 = .ok (.imul, 1) := by decide +kernel
theorem dX6_wentOn_58 : decode cX6_wentOn 58 = .ok (.iadd, 1) := by decide +kernel
theorem dX6_wentOn_59 : decode cX6_wentOn 59 = .ok (.istore_n 3, 1) := by decide +kernel
theorem dX6_wentOn_60 : decode cX6_wentOn 60 = .ok (.iload_n 3, 1) := by decide +kernel
theorem dX6_wentOn_61 : decode cX6_wentOn 61 = .ok (.ireturn, 1) := by decide +kernel
theorem dX6_expectedTips_0 : decode cX6_expectedTips 0 = .ok (.aload_n 0, 1) := by decide +kernel
theorem dX6_expectedTips_1 : decode cX6_expectedTips 1 = .ok (.getfield 20, 3) := by decide +kernel
theorem dX6_expectedTips_4 : decode cX6_expectedTips 4 = .ok (.iconst 0, 1) := by decide +kernel
theorem dX6_expectedTips_5 : decode cX6_expectedTips 5 = .ok (.aaload, 1) := by decide +kernel
theorem dX6_expectedTips_6 : decode cX6_expectedTips 6 = .ok (.getfield 148, 3) := by decide +kernel
theorem dX6_expectedTips_9 : decode cX6_expectedTips 9 = .ok (.istore_n 3, 1) := by decide +kernel
theorem dX6_expectedTips_10 : decode cX6_expectedTips 10 = .ok (.iload_n 3, 1) := by decide +kernel
theorem dX6_expectedTips_11 : decode cX6_expectedTips 11 = .ok (.ifCond .le 10, 3) := by decide +kernel
theorem dX6_expectedTips_14 : decode cX6_expectedTips 14 = .ok (.aload_n 1, 1) := by decide +kernel
theorem dX6_expectedTips_15 : decode cX6_expectedTips 15 = .ok (.getfield 151, 3) := by decide +kernel
theorem dX6_expectedTips_18 : decode cX6_expectedTips 18 = .ok (.ifCond .gt 5, 3) := by decide +kernel
theorem dX6_expectedTips_21 : decode cX6_expectedTips 21 = .ok (.iconst 0, 1) := by decide +kernel
theorem dX6_expectedTips_22 : decode cX6_expectedTips 22 = .ok (.ireturn, 1) := by decide +kernel
theorem dX6_expectedTips_23 : decode cX6_expectedTips 23 = .ok (.aload_n 2, 1) := by decide +kernel
theorem dX6_expectedTips_24 : decode cX6_expectedTips 24 = .ok (.getfield 93, 3) := by decide +kernel
theorem dX6_expectedTips_27 : decode cX6_expectedTips 27 = .ok (.aload_n 1, 1) := by decide +kernel
theorem dX6_expectedTips_28 : decode cX6_expectedTips 28 = .ok (.getfield 102, 3) := by decide +kernel
theorem dX6_expectedTips_31 : decode cX6_expectedTips 31 = .ok (.getfield 139, 3) := by decide +kernel
theorem dX6_expectedTips_34 : decode cX6_expectedTips 34 = .ok (.isub, 1) := by decide +kernel
theorem dX6_expectedTips_35 : decode cX6_expectedTips 35 = .ok (.istore 4, 2) := by decide +kernel
theorem dX6_expectedTips_37 : decode cX6_expectedTips 37 = .ok (.iload 4, 2) := by decide +kernel
theorem dX6_expectedTips_39 : decode cX6_expectedTips 39 = .ok (.aload_n 1, 1) := by decide +kernel
theorem dX6_expectedTips_40 : decode cX6_expectedTips 40 = .ok (.getfield 148, 3) := by decide +kernel
theorem dX6_expectedTips_43 : decode cX6_expectedTips 43 = .ok (.imul, 1) := by decide +kernel
theorem dX6_expectedTips_44 : decode cX6_expectedTips 44 = .ok (.iload_n 3, 1) := by decide +kernel
theorem dX6_expectedTips_45 : decode cX6_expectedTips 45 = .ok (.idiv, 1) := by decide +kernel
theorem dX6_expectedTips_46 : decode cX6_expectedTips 46 = .ok (.aload_n 1, 1) := by decide +kernel
theorem dX6_expectedTips_47 : decode cX6_expectedTips 47 = .ok (.getfield 151, 3) := by decide +kernel
theorem dX6_expectedTips_50 : decode cX6_expectedTips 50 = .ok (.idiv, 1) := by decide +kernel
theorem dX6_expectedTips_51 : decode cX6_expectedTips 51 = .ok (.ireturn, 1) := by decide +kernel
theorem dX6_roundsFor_0 : decode cX6_roundsFor 0 = .ok (.iload_n 1, 1) := by decide +kernel
theorem dX6_roundsFor_1 : decode cX6_roundsFor 1 = .ok (.ifCond .le 10, 3) := by decide +kernel
theorem dX6_roundsFor_4 : decode cX6_roundsFor 4 = .ok (.aload_n 0, 1) := by decide +kernel
theorem dX6_roundsFor_5 : decode cX6_roundsFor 5 = .ok (.getfield 9, 3) := by decide +kernel
theorem dX6_roundsFor_8 : decode cX6_roundsFor 8 = .ok (.ifCond .gt 5, 3) := by decide +kernel
theorem dX6_roundsFor_11 : decode cX6_roundsFor 11 = .ok (.iconst 0, 1) := by decide +kernel
theorem dX6_roundsFor_12 : decode cX6_roundsFor 12 = .ok (.ireturn, 1) := by decide +kernel
theorem dX6_roundsFor_13 : decode cX6_roundsFor 13 = .ok (.iconst 2, 1) := by decide +kernel
theorem dX6_roundsFor_14 : decode cX6_roundsFor 14 = .ok (.iload_n 1, 1) := by decide +kernel
theorem dX6_roundsFor_15 : decode cX6_roundsFor 15 = .ok (.imul, 1) := by decide +kernel
theorem dX6_roundsFor_16 : decode cX6_roundsFor 16 = .ok (.aload_n 0, 1) := by decide +kernel
theorem dX6_roundsFor_17 : decode cX6_roundsFor 17 = .ok (.getfield 9, 3) := by decide +kernel
theorem dX6_roundsFor_20 : decode cX6_roundsFor 20 = .ok (.iadd, 1) := by decide +kernel
theorem dX6_roundsFor_21 : decode cX6_roundsFor 21 = .ok (.iconst 1, 1) := by decide +kernel
theorem dX6_roundsFor_22 : decode cX6_roundsFor 22 = .ok (.isub, 1) := by decide +kernel
theorem dX6_roundsFor_23 : decode cX6_roundsFor 23 = .ok (.iconst 2, 1) := by decide +kernel
theorem dX6_roundsFor_24 : decode cX6_roundsFor 24 = .ok (.aload_n 0, 1) := by decide +kernel
theorem dX6_roundsFor_25 : decode cX6_roundsFor 25 = .ok (.getfield 9, 3) := by decide +kernel
theorem dX6_roundsFor_28 : decode cX6_roundsFor 28 = .ok (.imul, 1) := by decide +kernel
theorem dX6_roundsFor_29 : decode cX6_roundsFor 29 = .ok (.idiv, 1) := by decide +kernel
theorem dX6_roundsFor_30 : decode cX6_roundsFor 30 = .ok (.ireturn, 1) := by decide +kernel
theorem dX6_factOf_0 : decode cX6_factOf 0 = .ok (.iload_n 2, 1) := by decide +kernel
theorem dX6_factOf_1 : decode cX6_factOf 1 = .ok (.tableswitch 100 0 8 #[51, 56, 61, 66, 71, 76, 81, 90, 95], 51) := by decide +kernel
theorem dX6_factOf_52 : decode cX6_factOf 52 = .ok (.aload_n 1, 1) := by decide +kernel
theorem dX6_factOf_53 : decode cX6_factOf 53 = .ok (.getfield 148, 3) := by decide +kernel
theorem dX6_factOf_56 : decode cX6_factOf 56 = .ok (.ireturn, 1) := by decide +kernel
theorem dX6_factOf_57 : decode cX6_factOf 57 = .ok (.aload_n 1, 1) := by decide +kernel
theorem dX6_factOf_58 : decode cX6_factOf 58 = .ok (.getfield 151, 3) := by decide +kernel
theorem dX6_factOf_61 : decode cX6_factOf 61 = .ok (.ireturn, 1) := by decide +kernel
theorem dX6_factOf_62 : decode cX6_factOf 62 = .ok (.aload_n 1, 1) := by decide +kernel
theorem dX6_factOf_63 : decode cX6_factOf 63 = .ok (.getfield 154, 3) := by decide +kernel
theorem dX6_factOf_66 : decode cX6_factOf 66 = .ok (.ireturn, 1) := by decide +kernel
theorem dX6_factOf_67 : decode cX6_factOf 67 = .ok (.aload_n 1, 1) := by decide +kernel
theorem dX6_factOf_68 : decode cX6_factOf 68 = .ok (.getfield 96, 3) := by decide +kernel
theorem dX6_factOf_71 : decode cX6_factOf 71 = .ok (.ireturn, 1) := by decide +kernel
theorem dX6_factOf_72 : decode cX6_factOf 72 = .ok (.aload_n 1, 1) := by decide +kernel
theorem dX6_factOf_73 : decode cX6_factOf 73 = .ok (.getfield 157, 3) := by decide +kernel
theorem dX6_factOf_76 : decode cX6_factOf 76 = .ok (.ireturn, 1) := by decide +kernel
theorem dX6_factOf_77 : decode cX6_factOf 77 = .ok (.aload_n 1, 1) := by decide +kernel
theorem dX6_factOf_78 : decode cX6_factOf 78 = .ok (.getfield 83, 3) := by decide +kernel
theorem dX6_factOf_81 : decode cX6_factOf 81 = .ok (.ireturn, 1) := by decide +kernel
theorem dX6_factOf_82 : decode cX6_factOf 82 = .ok (.aload_n 0, 1) := by decide +kernel
theorem dX6_factOf_83 : decode cX6_factOf 83 = .ok (.aload_n 1, 1) := by decide +kernel
theorem dX6_factOf_84 : decode cX6_factOf 84 = .ok (.getfield 83, 3) := by decide +kernel
theorem dX6_factOf_87 : decode cX6_factOf 87 = .ok (.invokevirtual 99, 3) := by decide +kernel
theorem dX6_factOf_90 : decode cX6_factOf 90 = .ok (.ireturn, 1) := by decide +kernel
theorem dX6_factOf_91 : decode cX6_factOf 91 = .ok (.aload_n 1, 1) := by decide +kernel
theorem dX6_factOf_92 : decode cX6_factOf 92 = .ok (.getfield 90, 3) := by decide +kernel
theorem dX6_factOf_95 : decode cX6_factOf 95 = .ok (.ireturn, 1) := by decide +kernel
theorem dX6_factOf_96 : decode cX6_factOf 96 = .ok (.aload_n 1, 1) := by decide +kernel
theorem dX6_factOf_97 : decode cX6_factOf 97 = .ok (.getfield 160, 3) := by decide +kernel
theorem dX6_factOf_100 : decode cX6_factOf 100 = .ok (.ireturn, 1) := by decide +kernel
theorem dX6_factOf_101 : decode cX6_factOf 101 = .ok (.ldc 163, 2) := by decide +kernel
theorem dX6_factOf_103 : decode cX6_factOf 103 = .ok (.ireturn, 1) := by decide +kernel
theorem dX6_sumOf_0 : decode cX6_sumOf 0 = .ok (.iconst 0, 1) := by decide +kernel
theorem dX6_sumOf_1 : decode cX6_sumOf 1 = .ok (.istore_n 2, 1) := by decide +kernel
theorem dX6_sumOf_2 : decode cX6_sumOf 2 = .ok (.aload_n 0, 1) := by decide +kernel
theorem dX6_sumOf_3 : decode cX6_sumOf 3 = .ok (.getfield 20, 3) := by decide +kernel
theorem dX6_sumOf_6 : decode cX6_sumOf 6 = .ok (.astore_n 3, 1) := by decide +kernel
theorem dX6_sumOf_7 : decode cX6_sumOf 7 = .ok (.aload_n 3, 1) := by decide +kernel
theorem dX6_sumOf_8 : decode cX6_sumOf 8 = .ok (.arraylength, 1) := by decide +kernel
theorem dX6_sumOf_9 : decode cX6_sumOf 9 = .ok (.istore 4, 2) := by decide +kernel
theorem dX6_sumOf_11 : decode cX6_sumOf 11 = .ok (.iconst 0, 1) := by decide +kernel
theorem dX6_sumOf_12 : decode cX6_sumOf 12 = .ok (.istore 5, 2) := by decide +kernel
theorem dX6_sumOf_14 : decode cX6_sumOf 14 = .ok (.iload 5, 2) := by decide +kernel
theorem dX6_sumOf_16 : decode cX6_sumOf 16 = .ok (.iload 4, 2) := by decide +kernel
theorem dX6_sumOf_18 : decode cX6_sumOf 18 = .ok (.if_icmp .ge 25, 3) := by decide +kernel
theorem dX6_sumOf_21 : decode cX6_sumOf 21 = .ok (.aload_n 3, 1) := by decide +kernel
theorem dX6_sumOf_22 : decode cX6_sumOf 22 = .ok (.iload 5, 2) := by decide +kernel
theorem dX6_sumOf_24 : decode cX6_sumOf 24 = .ok (.aaload, 1) := by decide +kernel
theorem dX6_sumOf_25 : decode cX6_sumOf 25 = .ok (.astore 6, 2) := by decide +kernel
theorem dX6_sumOf_27 : decode cX6_sumOf 27 = .ok (.iload_n 2, 1) := by decide +kernel
theorem dX6_sumOf_28 : decode cX6_sumOf 28 = .ok (.aload_n 0, 1) := by decide +kernel
theorem dX6_sumOf_29 : decode cX6_sumOf 29 = .ok (.aload 6, 2) := by decide +kernel
theorem dX6_sumOf_31 : decode cX6_sumOf 31 = .ok (.iload_n 1, 1) := by decide +kernel
theorem dX6_sumOf_32 : decode cX6_sumOf 32 = .ok (.invokevirtual 164, 3) := by decide +kernel
theorem dX6_sumOf_35 : decode cX6_sumOf 35 = .ok (.iadd, 1) := by decide +kernel
theorem dX6_sumOf_36 : decode cX6_sumOf 36 = .ok (.istore_n 2, 1) := by decide +kernel
theorem dX6_sumOf_37 : decode cX6_sumOf 37 = .ok (.iinc 5 1, 3) := by decide +kernel
theorem dX6_sumOf_40 : decode cX6_sumOf 40 = .ok (.goto (-26), 3) := by decide +kernel
theorem dX6_sumOf_43 : decode cX6_sumOf 43 = .ok (.iload_n 2, 1) := by decide +kernel
theorem dX6_sumOf_44 : decode cX6_sumOf 44 = .ok (.ireturn, 1) := by decide +kernel
theorem dX6_sumOfTold_0 : decode cX6_sumOfTold 0 = .ok (.iconst 0, 1) := by decide +kernel
theorem dX6_sumOfTold_1 : decode cX6_sumOfTold 1 = .ok (.istore_n 1, 1) := by decide +kernel
theorem dX6_sumOfTold_2 : decode cX6_sumOfTold 2 = .ok (.aload_n 0, 1) := by decide +kernel
theorem dX6_sumOfTold_3 : decode cX6_sumOfTold 3 = .ok (.getfield 20, 3) := by decide +kernel
theorem dX6_sumOfTold_6 : decode cX6_sumOfTold 6 = .ok (.astore_n 2, 1) := by decide +kernel
theorem dX6_sumOfTold_7 : decode cX6_sumOfTold 7 = .ok (.aload_n 2, 1) := by decide +kernel
theorem dX6_sumOfTold_8 : decode cX6_sumOfTold 8 = .ok (.arraylength, 1) := by decide +kernel
theorem dX6_sumOfTold_9 : decode cX6_sumOfTold 9 = .ok (.istore_n 3, 1) := by decide +kernel
theorem dX6_sumOfTold_10 : decode cX6_sumOfTold 10 = .ok (.iconst 0, 1) := by decide +kernel
theorem dX6_sumOfTold_11 : decode cX6_sumOfTold 11 = .ok (.istore 4, 2) := by decide +kernel
theorem dX6_sumOfTold_13 : decode cX6_sumOfTold 13 = .ok (.iload 4, 2) := by decide +kernel
theorem dX6_sumOfTold_15 : decode cX6_sumOfTold 15 = .ok (.iload_n 3, 1) := by decide +kernel
theorem dX6_sumOfTold_16 : decode cX6_sumOfTold 16 = .ok (.if_icmp .ge 26, 3) := by decide +kernel
theorem dX6_sumOfTold_19 : decode cX6_sumOfTold 19 = .ok (.aload_n 2, 1) := by decide +kernel
theorem dX6_sumOfTold_20 : decode cX6_sumOfTold 20 = .ok (.iload 4, 2) := by decide +kernel
theorem dX6_sumOfTold_22 : decode cX6_sumOfTold 22 = .ok (.aaload, 1) := by decide +kernel
theorem dX6_sumOfTold_23 : decode cX6_sumOfTold 23 = .ok (.astore 5, 2) := by decide +kernel
theorem dX6_sumOfTold_25 : decode cX6_sumOfTold 25 = .ok (.iload_n 1, 1) := by decide +kernel
theorem dX6_sumOfTold_26 : decode cX6_sumOfTold 26 = .ok (.aload 5, 2) := by decide +kernel
theorem dX6_sumOfTold_28 : decode cX6_sumOfTold 28 = .ok (.getfield 102, 3) := by decide +kernel
theorem dX6_sumOfTold_31 : decode cX6_sumOfTold 31 = .ok (.getfield 132, 3) := by decide +kernel
theorem dX6_sumOfTold_34 : decode cX6_sumOfTold 34 = .ok (.iadd, 1) := by decide +kernel
theorem dX6_sumOfTold_35 : decode cX6_sumOfTold 35 = .ok (.istore_n 1, 1) := by decide +kernel
theorem dX6_sumOfTold_36 : decode cX6_sumOfTold 36 = .ok (.iinc 4 1, 3) := by decide +kernel
theorem dX6_sumOfTold_39 : decode cX6_sumOfTold 39 = .ok (.goto (-26), 3) := by decide +kernel
theorem dX6_sumOfTold_42 : decode cX6_sumOfTold 42 = .ok (.iload_n 1, 1) := by decide +kernel
theorem dX6_sumOfTold_43 : decode cX6_sumOfTold 43 = .ok (.ireturn, 1) := by decide +kernel
theorem dX6_gaugesWithGap_0 : decode cX6_gaugesWithGap 0 = .ok (.iconst 0, 1) := by decide +kernel
theorem dX6_gaugesWithGap_1 : decode cX6_gaugesWithGap 1 = .ok (.istore_n 1, 1) := by decide +kernel
theorem dX6_gaugesWithGap_2 : decode cX6_gaugesWithGap 2 = .ok (.aload_n 0, 1) := by decide +kernel
theorem dX6_gaugesWithGap_3 : decode cX6_gaugesWithGap 3 = .ok (.getfield 20, 3) := by decide +kernel
theorem dX6_gaugesWithGap_6 : decode cX6_gaugesWithGap 6 = .ok (.astore_n 2, 1) := by decide +kernel
theorem dX6_gaugesWithGap_7 : decode cX6_gaugesWithGap 7 = .ok (.aload_n 2, 1) := by decide +kernel
theorem dX6_gaugesWithGap_8 : decode cX6_gaugesWithGap 8 = .ok (.arraylength, 1) := by decide +kernel
theorem dX6_gaugesWithGap_9 : decode cX6_gaugesWithGap 9 = .ok (.istore_n 3, 1) := by decide +kernel
theorem dX6_gaugesWithGap_10 : decode cX6_gaugesWithGap 10 = .ok (.iconst 0, 1) := by decide +kernel
theorem dX6_gaugesWithGap_11 : decode cX6_gaugesWithGap 11 = .ok (.istore 4, 2) := by decide +kernel
theorem dX6_gaugesWithGap_13 : decode cX6_gaugesWithGap 13 = .ok (.iload 4, 2) := by decide +kernel
theorem dX6_gaugesWithGap_15 : decode cX6_gaugesWithGap 15 = .ok (.iload_n 3, 1) := by decide +kernel
theorem dX6_gaugesWithGap_16 : decode cX6_gaugesWithGap 16 = .ok (.if_icmp .ge 26, 3) := by decide +kernel
theorem dX6_gaugesWithGap_19 : decode cX6_gaugesWithGap 19 = .ok (.aload_n 2, 1) := by decide +kernel
theorem dX6_gaugesWithGap_20 : decode cX6_gaugesWithGap 20 = .ok (.iload 4, 2) := by decide +kernel
theorem dX6_gaugesWithGap_22 : decode cX6_gaugesWithGap 22 = .ok (.aaload, 1) := by decide +kernel
theorem dX6_gaugesWithGap_23 : decode cX6_gaugesWithGap 23 = .ok (.astore 5, 2) := by decide +kernel
theorem dX6_gaugesWithGap_25 : decode cX6_gaugesWithGap 25 = .ok (.aload 5, 2) := by decide +kernel
theorem dX6_gaugesWithGap_27 : decode cX6_gaugesWithGap 27 = .ok (.invokevirtual 168, 3) := by decide +kernel
theorem dX6_gaugesWithGap_30 : decode cX6_gaugesWithGap 30 = .ok (.ifCond .eq 6, 3) := by decide +kernel
theorem dX6_gaugesWithGap_33 : decode cX6_gaugesWithGap 33 = .ok (.iinc 1 1, 3) := by decide +kernel
theorem dX6_gaugesWithGap_36 : decode cX6_gaugesWithGap 36 = .ok (.iinc 4 1, 3) := by decide +kernel
theorem dX6_gaugesWithGap_39 : decode cX6_gaugesWithGap 39 = .ok (.goto (-26), 3) := by decide +kernel
theorem dX6_gaugesWithGap_42 : decode cX6_gaugesWithGap 42 = .ok (.iload_n 1, 1) := by decide +kernel
theorem dX6_gaugesWithGap_43 : decode cX6_gaugesWithGap 43 = .ok (.ireturn, 1) := by decide +kernel
