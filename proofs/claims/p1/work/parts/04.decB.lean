theorem dX8_init_0 : decode cX8_init 0 = .ok (.aload_n 0, 1) := by decide +kernel
theorem dX8_init_1 : decode cX8_init 1 = .ok (.invokespecial 3, 3) := by decide +kernel
theorem dX8_init_4 : decode cX8_init 4 = .ok (.aload_n 0, 1) := by decide +kernel
theorem dX8_init_5 : decode cX8_init 5 = .ok (.aload_n 1, 1) := by decide +kernel
theorem dX8_init_6 : decode cX8_init 6 = .ok (.putfield 9, 3) := by decide +kernel
theorem dX8_init_9 : decode cX8_init 9 = .ok (.aload_n 0, 1) := by decide +kernel
theorem dX8_init_10 : decode cX8_init 10 = .ok (.aload_n 2, 1) := by decide +kernel
theorem dX8_init_11 : decode cX8_init 11 = .ok (.putfield 15, 3) := by decide +kernel
theorem dX8_init_14 : decode cX8_init 14 = .ok (.aload_n 0, 1) := by decide +kernel
theorem dX8_init_15 : decode cX8_init 15 = .ok (.sipush 288, 3) := by decide +kernel
theorem dX8_init_18 : decode cX8_init 18 = .ok (.newarray .boolean, 2) := by decide +kernel
theorem dX8_init_20 : decode cX8_init 20 = .ok (.putfield 19, 3) := by decide +kernel
theorem dX8_init_23 : decode cX8_init 23 = .ok (.aload_n 0, 1) := by decide +kernel
theorem dX8_init_24 : decode cX8_init 24 = .ok (.sipush 288, 3) := by decide +kernel
theorem dX8_init_27 : decode cX8_init 27 = .ok (.newarray .int, 2) := by decide +kernel
theorem dX8_init_29 : decode cX8_init 29 = .ok (.putfield 23, 3) := by decide +kernel
theorem dX8_init_32 : decode cX8_init 32 = .ok (.aload_n 0, 1) := by decide +kernel
theorem dX8_init_33 : decode cX8_init 33 = .ok (.sipush 288, 3) := by decide +kernel
theorem dX8_init_36 : decode cX8_init 36 = .ok (.newarray .int, 2) := by decide +kernel
theorem dX8_init_38 : decode cX8_init 38 = .ok (.putfield 27, 3) := by decide +kernel
theorem dX8_init_41 : decode cX8_init 41 = .ok (.aload_n 0, 1) := by decide +kernel
theorem dX8_init_42 : decode cX8_init 42 = .ok (.sipush 1440, 3) := by decide +kernel
theorem dX8_init_45 : decode cX8_init 45 = .ok (.newarray .long, 2) := by decide +kernel
theorem dX8_init_47 : decode cX8_init 47 = .ok (.putfield 30, 3) := by decide +kernel
theorem dX8_init_50 : decode cX8_init 50 = .ok (.aload_n 0, 1) := by decide +kernel
theorem dX8_init_51 : decode cX8_init 51 = .ok (.sipush 1440, 3) := by decide +kernel
theorem dX8_init_54 : decode cX8_init 54 = .ok (.newarray .long, 2) := by decide +kernel
theorem dX8_init_56 : decode cX8_init 56 = .ok (.putfield 34, 3) := by decide +kernel
theorem dX8_init_59 : decode cX8_init 59 = .ok (.aload_n 0, 1) := by decide +kernel
theorem dX8_init_60 : decode cX8_init 60 = .ok (.iconst (-1), 1) := by decide +kernel
theorem dX8_init_61 : decode cX8_init 61 = .ok (.putfield 37, 3) := by decide +kernel
theorem dX8_init_64 : decode cX8_init 64 = .ok (.return_, 1) := by decide +kernel
theorem dX8_settle_0 : decode cX8_settle 0 = .ok (.aload_n 0, 1) := by decide +kernel
theorem dX8_settle_1 : decode cX8_settle 1 = .ok (.getfield 37, 3) := by decide +kernel
theorem dX8_settle_4 : decode cX8_settle 4 = .ok (.aload_n 0, 1) := by decide +kernel
theorem dX8_settle_5 : decode cX8_settle 5 = .ok (.getfield 9, 3) := by decide +kernel
theorem dX8_settle_8 : decode cX8_settle 8 = .ok (.getfield 41, 3) := by decide +kernel
theorem dX8_settle_11 : decode cX8_settle 11 = .ok (.if_icmp .ne 4, 3) := by decide +kernel
theorem dX8_settle_14 : decode cX8_settle 14 = .ok (.return_, 1) := by decide +kernel
theorem dX8_settle_15 : decode cX8_settle 15 = .ok (.aload_n 0, 1) := by decide +kernel
theorem dX8_settle_16 : decode cX8_settle 16 = .ok (.aload_n 0, 1) := by decide +kernel
theorem dX8_settle_17 : decode cX8_settle 17 = .ok (.getfield 9, 3) := by decide +kernel
theorem dX8_settle_20 : decode cX8_settle 20 = .ok (.getfield 41, 3) := by decide +kernel
theorem dX8_settle_23 : decode cX8_settle 23 = .ok (.putfield 37, 3) := by decide +kernel
theorem dX8_settle_26 : decode cX8_settle 26 = .ok (.aload_n 0, 1) := by decide +kernel
theorem dX8_settle_27 : decode cX8_settle 27 = .ok (.getfield 15, 3) := by decide +kernel
theorem dX8_settle_30 : decode cX8_settle 30 = .ok (.invokevirtual 44, 3) := by decide +kernel
theorem dX8_settle_33 : decode cX8_settle 33 = .ok (.iconst 0, 1) := by decide +kernel
theorem dX8_settle_34 : decode cX8_settle 34 = .ok (.istore_n 1, 1) := by decide +kernel
theorem dX8_settle_35 : decode cX8_settle 35 = .ok (.iload_n 1, 1) := by decide +kernel
theorem dX8_settle_36 : decode cX8_settle 36 = .ok (.sipush 288, 3) := by decide +kernel
theorem dX8_settle_39 : decode cX8_settle 39 = .ok (.if_icmp .ge 51, 3) := by decide +kernel
theorem dX8_settle_42 : decode cX8_settle 42 = .ok (.aload_n 0, 1) := by decide +kernel
theorem dX8_settle_43 : decode cX8_settle 43 = .ok (.getfield 9, 3) := by decide +kernel
theorem dX8_settle_46 : decode cX8_settle 46 = .ok (.iload_n 1, 1) := by decide +kernel
theorem dX8_settle_47 : decode cX8_settle 47 = .ok (.invokevirtual 49, 3) := by decide +kernel
theorem dX8_settle_50 : decode cX8_settle 50 = .ok (.astore_n 2, 1) := by decide +kernel
theorem dX8_settle_51 : decode cX8_settle 51 = .ok (.aload_n 0, 1) := by decide +kernel
theorem dX8_settle_52 : decode cX8_settle 52 = .ok (.getfield 19, 3) := by decide +kernel
theorem dX8_settle_55 : decode cX8_settle 55 = .ok (.iload_n 1, 1) := by decide +kernel
theorem dX8_settle_56 : decode cX8_settle 56 = .ok (.aload_n 2, 1) := by decide +kernel
theorem dX8_settle_57 : decode cX8_settle 57 = .ok (.ifnull 25, 3) := by decide +kernel
theorem dX8_settle_60 : decode cX8_settle 60 = .ok (.aload_n 2, 1) := by decide +kernel
theorem dX8_settle_61 : decode cX8_settle 61 = .ok (.invokevirtual 53, 3) := by decide +kernel
theorem dX8_settle_64 : decode cX8_settle 64 = .ok (.ifCond .eq 18, 3) := by decide +kernel
theorem dX8_settle_67 : decode cX8_settle 67 = .ok (.aload_n 0, 1) := by decide +kernel
theorem dX8_settle_68 : decode cX8_settle 68 = .ok (.getfield 15, 3) := by decide +kernel
theorem dX8_settle_71 : decode cX8_settle 71 = .ok (.iload_n 1, 1) := by decide +kernel
theorem dX8_settle_72 : decode cX8_settle 72 = .ok (.invokevirtual 59, 3) := by decide +kernel
theorem dX8_settle_75 : decode cX8_settle 75 = .ok (.ifCond .ne 7, 3) := by decide +kernel
theorem dX8_settle_78 : decode cX8_settle 78 = .ok (.iconst 1, 1) := by decide +kernel
theorem dX8_settle_79 : decode cX8_settle 79 = .ok (.goto 4, 3) := by decide +kernel
theorem dX8_settle_82 : decode cX8_settle 82 = .ok (.iconst 0, 1) := by decide +kernel
theorem dX8_settle_83 : decode cX8_settle 83 = .ok (.bastore, 1) := by decide +kernel
theorem dX8_settle_84 : decode cX8_settle 84 = .ok (.iinc 1 1, 3) := by decide +kernel
theorem dX8_settle_87 : decode cX8_settle 87 = .ok (.goto (-52), 3) := by decide +kernel
theorem dX8_settle_90 : decode cX8_settle 90 = .ok (.return_, 1) := by decide +kernel
theorem dX8_isTotal_0 : decode cX8_isTotal 0 = .ok (.iload_n 1, 1) := by decide +kernel
theorem dX8_isTotal_1 : decode cX8_isTotal 1 = .ok (.invokestatic 63, 3) := by decide +kernel
theorem dX8_isTotal_4 : decode cX8_isTotal 4 = .ok (.ifCond .eq 16, 3) := by decide +kernel
theorem dX8_isTotal_7 : decode cX8_isTotal 7 = .ok (.aload_n 0, 1) := by decide +kernel
theorem dX8_isTotal_8 : decode cX8_isTotal 8 = .ok (.getfield 19, 3) := by decide +kernel
theorem dX8_isTotal_11 : decode cX8_isTotal 11 = .ok (.iload_n 1, 1) := by decide +kernel
theorem dX8_isTotal_12 : decode cX8_isTotal 12 = .ok (.baload, 1) := by decide +kernel
theorem dX8_isTotal_13 : decode cX8_isTotal 13 = .ok (.ifCond .eq 7, 3) := by decide +kernel
theorem dX8_isTotal_16 : decode cX8_isTotal 16 = .ok (.iconst 1, 1) := by decide +kernel
theorem dX8_isTotal_17 : decode cX8_isTotal 17 = .ok (.goto 4, 3) := by decide +kernel
theorem dX8_isTotal_20 : decode cX8_isTotal 20 = .ok (.iconst 0, 1) := by decide +kernel
theorem dX8_isTotal_21 : decode cX8_isTotal 21 = .ok (.ireturn, 1) := by decide +kernel
theorem dX8_gatherTwice_0 : decode cX8_gatherTwice 0 = .ok (.iconst 0, 1) := by decide +kernel
theorem dX8_gatherTwice_1 : decode cX8_gatherTwice 1 = .ok (.istore_n 1, 1) := by decide +kernel
theorem dX8_gatherTwice_2 : decode cX8_gatherTwice 2 = .ok (.iload_n 1, 1) := by decide +kernel
theorem dX8_gatherTwice_3 : decode cX8_gatherTwice 3 = .ok (.aload_n 0, 1) := by decide +kernel
theorem dX8_gatherTwice_4 : decode cX8_gatherTwice 4 = .ok (.getfield 15, 3) := by decide +kernel
theorem dX8_gatherTwice_7 : decode cX8_gatherTwice 7 = .ok (.invokevirtual 73, 3) := by decide +kernel
theorem dX8_gatherTwice_10 : decode cX8_gatherTwice 10 = .ok (.if_icmp .ge 50, 3) := by decide +kernel
theorem dX8_gatherTwice_13 : decode cX8_gatherTwice 13 = .ok (.aload_n 0, 1) := by decide +kernel
theorem dX8_gatherTwice_14 : decode cX8_gatherTwice 14 = .ok (.getfield 15, 3) := by decide +kernel
theorem dX8_gatherTwice_17 : decode cX8_gatherTwice 17 = .ok (.iload_n 1, 1) := by decide +kernel
theorem dX8_gatherTwice_18 : decode cX8_gatherTwice 18 = .ok (.invokevirtual 77, 3) := by decide +kernel
theorem dX8_gatherTwice_21 : decode cX8_gatherTwice 21 = .ok (.istore_n 2, 1) := by decide +kernel
theorem dX8_gatherTwice_22 : decode cX8_gatherTwice 22 = .ok (.aload_n 0, 1) := by decide +kernel
theorem dX8_gatherTwice_23 : decode cX8_gatherTwice 23 = .ok (.getfield 9, 3) := by decide +kernel
theorem dX8_gatherTwice_26 : decode cX8_gatherTwice 26 = .ok (.iload_n 2, 1) := by decide +kernel
theorem dX8_gatherTwice_27 : decode cX8_gatherTwice 27 = .ok (.invokevirtual 49, 3) := by decide +kernel
theorem dX8_gatherTwice_30 : decode cX8_gatherTwice 30 = .ok (.astore_n 3, 1) := by decide +kernel
theorem dX8_gatherTwice_31 : decode cX8_gatherTwice 31 = .ok (.aload_n 0, 1) := by decide +kernel
theorem dX8_gatherTwice_32 : decode cX8_gatherTwice 32 = .ok (.iload_n 2, 1) := by decide +kernel
theorem dX8_gatherTwice_33 : decode cX8_gatherTwice 33 = .ok (.invokevirtual 66, 3) := by decide +kernel
theorem dX8_gatherTwice_36 : decode cX8_gatherTwice 36 = .ok (.ifCond .eq 18, 3) := by decide +kernel
theorem dX8_gatherTwice_39 : decode cX8_gatherTwice 39 = .ok (.aload_n 3, 1) := by decide +kernel
theorem dX8_gatherTwice_40 : decode cX8_gatherTwice 40 = .ok (.ifnull 14, 3) := by decide +kernel
theorem dX8_gatherTwice_43 : decode cX8_gatherTwice 43 = .ok (.aload_n 0, 1) := by decide +kernel
theorem dX8_gatherTwice_44 : decode cX8_gatherTwice 44 = .ok (.iload_n 2, 1) := by decide +kernel
theorem dX8_gatherTwice_45 : decode cX8_gatherTwice 45 = .ok (.invokevirtual 103, 3) := by decide +kernel
theorem dX8_gatherTwice_48 : decode cX8_gatherTwice 48 = .ok (.aload_n 0, 1) := by decide +kernel
theorem dX8_gatherTwice_49 : decode cX8_gatherTwice 49 = .ok (.iload_n 2, 1) := by decide +kernel
theorem dX8_gatherTwice_50 : decode cX8_gatherTwice 50 = .ok (.aload_n 3, 1) := by decide +kernel
theorem dX8_gatherTwice_51 : decode cX8_gatherTwice 51 = .ok (.invokevirtual 107, 3) := by decide +kernel
theorem dX8_gatherTwice_54 : decode cX8_gatherTwice 54 = .ok (.iinc 1 1, 3) := by decide +kernel
theorem dX8_gatherTwice_57 : decode cX8_gatherTwice 57 = .ok (.goto (-55), 3) := by decide +kernel
theorem dX8_gatherTwice_60 : decode cX8_gatherTwice 60 = .ok (.return_, 1) := by decide +kernel
theorem dX9_init_0 : decode cX9_init 0 = .ok (.aload_n 0, 1) := by decide +kernel
theorem dX9_init_1 : decode cX9_init 1 = .ok (.invokespecial 3, 3) := by decide +kernel
theorem dX9_init_4 : decode cX9_init 4 = .ok (.aload_n 0, 1) := by decide +kernel
theorem dX9_init_5 : decode cX9_init 5 = .ok (.aload_n 1, 1) := by decide +kernel
theorem dX9_init_6 : decode cX9_init 6 = .ok (.putfield 9, 3) := by decide +kernel
theorem dX9_init_9 : decode cX9_init 9 = .ok (.aload_n 0, 1) := by decide +kernel
theorem dX9_init_10 : decode cX9_init 10 = .ok (.aload_n 2, 1) := by decide +kernel
theorem dX9_init_11 : decode cX9_init 11 = .ok (.putfield 15, 3) := by decide +kernel
theorem dX9_init_14 : decode cX9_init 14 = .ok (.aload_n 0, 1) := by decide +kernel
theorem dX9_init_15 : decode cX9_init 15 = .ok (.sipush 864, 3) := by decide +kernel
theorem dX9_init_18 : decode cX9_init 18 = .ok (.newarray .int, 2) := by decide +kernel
theorem dX9_init_20 : decode cX9_init 20 = .ok (.putfield 19, 3) := by decide +kernel
theorem dX9_init_23 : decode cX9_init 23 = .ok (.aload_n 0, 1) := by decide +kernel
theorem dX9_init_24 : decode cX9_init 24 = .ok (.sipush 288, 3) := by decide +kernel
theorem dX9_init_27 : decode cX9_init 27 = .ok (.newarray .boolean, 2) := by decide +kernel
theorem dX9_init_29 : decode cX9_init 29 = .ok (.putfield 23, 3) := by decide +kernel
theorem dX9_init_32 : decode cX9_init 32 = .ok (.aload_n 0, 1) := by decide +kernel
theorem dX9_init_33 : decode cX9_init 33 = .ok (.sipush 288, 3) := by decide +kernel
theorem dX9_init_36 : decode cX9_init 36 = .ok (.newarray .int, 2) := by decide +kernel
theorem dX9_init_38 : decode cX9_init 38 = .ok (.putfield 27, 3) := by decide +kernel
theorem dX9_init_41 : decode cX9_init 41 = .ok (.aload_n 0, 1) := by decide +kernel
theorem dX9_init_42 : decode cX9_init 42 = .ok (.bipush 96, 2) := by decide +kernel
theorem dX9_init_44 : decode cX9_init 44 = .ok (.newarray .int, 2) := by decide +kernel
theorem dX9_init_46 : decode cX9_init 46 = .ok (.putfield 30, 3) := by decide +kernel
theorem dX9_init_49 : decode cX9_init 49 = .ok (.aload_n 0, 1) := by decide +kernel
theorem dX9_init_50 : decode cX9_init 50 = .ok (.iconst (-1), 1) := by decide +kernel
theorem dX9_init_51 : decode cX9_init 51 = .ok (.putfield 33, 3) := by decide +kernel
theorem dX9_init_54 : decode cX9_init 54 = .ok (.return_, 1) := by decide +kernel
theorem dX9_settle_0 : decode cX9_settle 0 = .ok (.aload_n 0, 1) := by decide +kernel
theorem dX9_settle_1 : decode cX9_settle 1 = .ok (.getfield 33, 3) := by decide +kernel
theorem dX9_settle_4 : decode cX9_settle 4 = .ok (.aload_n 0, 1) := by decide +kernel
theorem dX9_settle_5 : decode cX9_settle 5 = .ok (.getfield 9, 3) := by decide +kernel
theorem dX9_settle_8 : decode cX9_settle 8 = .ok (.getfield 37, 3) := by decide +kernel
theorem dX9_settle_11 : decode cX9_settle 11 = .ok (.if_icmp .ne 4, 3) := by decide +kernel
theorem dX9_settle_14 : decode cX9_settle 14 = .ok (.return_, 1) := by decide +kernel
theorem dX9_settle_15 : decode cX9_settle 15 = .ok (.aload_n 0, 1) := by decide +kernel
theorem dX9_settle_16 : decode cX9_settle 16 = .ok (.aload_n 0, 1) := by decide +kernel
theorem dX9_settle_17 : decode cX9_settle 17 = .ok (.getfield 9, 3) := by decide +kernel
theorem dX9_settle_20 : decode cX9_settle 20 = .ok (.getfield 37, 3) := by decide +kernel
theorem dX9_settle_23 : decode cX9_settle 23 = .ok (.putfield 33, 3) := by decide +kernel
theorem dX9_settle_26 : decode cX9_settle 26 = .ok (.aload_n 0, 1) := by decide +kernel
theorem dX9_settle_27 : decode cX9_settle 27 = .ok (.getfield 15, 3) := by decide +kernel
theorem dX9_settle_30 : decode cX9_settle 30 = .ok (.invokevirtual 40, 3) := by decide +kernel
theorem dX9_settle_33 : decode cX9_settle 33 = .ok (.iconst 0, 1) := by decide +kernel
theorem dX9_settle_34 : decode cX9_settle 34 = .ok (.istore_n 1, 1) := by decide +kernel
theorem dX9_settle_35 : decode cX9_settle 35 = .ok (.iload_n 1, 1) := by decide +kernel
theorem dX9_settle_36 : decode cX9_settle 36 = .ok (.sipush 288, 3) := by decide +kernel
theorem dX9_settle_39 : decode cX9_settle 39 = .ok (.if_icmp .ge 65, 3) := by decide +kernel
theorem dX9_settle_42 : decode cX9_settle 42 = .ok (.aload_n 0, 1) := by decide +kernel
theorem dX9_settle_43 : decode cX9_settle 43 = .ok (.getfield 9, 3) := by decide +kernel
theorem dX9_settle_46 : decode cX9_settle 46 = .ok (.iload_n 1, 1) := by decide +kernel
theorem dX9_settle_47 : decode cX9_settle 47 = .ok (.invokevirtual 45, 3) := by decide +kernel
theorem dX9_settle_50 : decode cX9_settle 50 = .ok (.astore_n 2, 1) := by decide +kernel
theorem dX9_settle_51 : decode cX9_settle 51 = .ok (.aload_n 0, 1) := by decide +kernel
theorem dX9_settle_52 : decode cX9_settle 52 = .ok (.getfield 19, 3) := by decide +kernel
theorem dX9_settle_55 : decode cX9_settle 55 = .ok (.iload_n 1, 1) := by decide +kernel
theorem dX9_settle_56 : decode cX9_settle 56 = .ok (.iconst 3, 1) := by decide +kernel
theorem dX9_settle_57 : decode cX9_settle 57 = .ok (.imul, 1) := by decide +kernel
theorem dX9_settle_58 : decode cX9_settle 58 = .ok (.aload_n 2, 1) := by decide +kernel
theorem dX9_settle_59 : decode cX9_settle 59 = .ok (.getfield 49, 3) := by decide +kernel
theorem dX9_settle_62 : decode cX9_settle 62 = .ok (.iastore, 1) := by decide +kernel
theorem dX9_settle_63 : decode cX9_settle 63 = .ok (.aload_n 0, 1) := by decide +kernel
theorem dX9_settle_64 : decode cX9_settle 64 = .ok (.getfield 19, 3) := by decide +kernel
theorem dX9_settle_67 : decode cX9_settle 67 = .ok (.iload_n 1, 1) := by decide +kernel
theorem dX9_settle_68 : decode cX9_settle 68 = .ok (.iconst 3, 1) := by decide +kernel
theorem dX9_settle_69 : decode cX9_settle 69 = .ok (.imul, 1) := by decide +kernel
theorem dX9_settle_70 : decode cX9_settle 70 = .ok (.iconst 1, 1) := by decide +kernel
theorem dX9_settle_71 : decode cX9_settle 71 = .ok (.iadd, 1) := by decide +kernel
theorem dX9_settle_72 : decode cX9_settle 72 = .ok (.aload_n 2, 1) := by decide +kernel
theorem dX9_settle_73 : decode cX9_settle 73 = .ok (.getfield 54, 3) := by decide +kernel
theorem dX9_settle_76 : decode cX9_settle 76 = .ok (.iastore, 1) := by decide +kernel
theorem dX9_settle_77 : decode cX9_settle 77 = .ok (.aload_n 0, 1) := by decide +kernel
theorem dX9_settle_78 : decode cX9_settle 78 = .ok (.getfield 19, 3) := by decide +kernel
theorem dX9_settle_81 : decode cX9_settle 81 = .ok (.iload_n 1, 1) := by decide +kernel
theorem dX9_settle_82 : decode cX9_settle 82 = .ok (.iconst 3, 1) := by decide +kernel
theorem dX9_settle_83 : decode cX9_settle 83 = .ok (.imul, 1) := by decide +kernel
theorem dX9_settle_84 : decode cX9_settle 84 = .ok (.iconst 2, 1) := by decide +kernel
theorem dX9_settle_85 : decode cX9_settle 85 = .ok (.iadd, 1) := by decide +kernel
theorem dX9_settle_86 : decode cX9_settle 86 = .ok (.aload_n 2, 1) := by decide +kernel
theorem dX9_settle_87 : decode cX9_settle 87 = .ok (.getfield 57, 3) := by decide +kernel
theorem dX9_settle_90 : decode cX9_settle 90 = .ok (.iastore, 1) := by decide +kernel
theorem dX9_settle_91 : decode cX9_settle 91 = .ok (.aload_n 0, 1) := by decide +kernel
theorem dX9_settle_92 : decode cX9_settle 92 = .ok (.getfield 23, 3) := by decide +kernel
theorem dX9_settle_95 : decode cX9_settle 95 = .ok (.iload_n 1, 1) := by decide +kernel
theorem dX9_settle_96 : decode cX9_settle 96 = .ok (.iconst 0, 1) := by decide +kernel
theorem dX9_settle_97 : decode cX9_settle 97 = .ok (.bastore, 1) := by decide +kernel
theorem dX9_settle_98 : decode cX9_settle 98 = .ok (.iinc 1 1, 3) := by decide +kernel
theorem dX9_settle_101 : decode cX9_settle 101 = .ok (.goto (-66), 3) := by decide +kernel
theorem dX9_settle_104 : decode cX9_settle 104 = .ok (.iconst 0, 1) := by decide +kernel
theorem dX9_settle_105 : decode cX9_settle 105 = .ok (.istore_n 1, 1) := by decide +kernel
theorem dX9_settle_106 : decode cX9_settle 106 = .ok (.iload_n 1, 1) := by decide +kernel
theorem dX9_settle_107 : decode cX9_settle 107 = .ok (.aload_n 0, 1) := by decide +kernel
theorem dX9_settle_108 : decode cX9_settle 108 = .ok (.getfield 15, 3) := by decide +kernel
theorem dX9_settle_111 : decode cX9_settle 111 = .ok (.invokevirtual 60, 3) := by decide +kernel
theorem dX9_settle_114 : decode cX9_settle 114 = .ok (.if_icmp .ge 55, 3) := by decide +kernel
theorem dX9_settle_117 : decode cX9_settle 117 = .ok (.aload_n 0, 1) := by decide +kernel
theorem dX9_settle_118 : decode cX9_settle 118 = .ok (.getfield 15, 3) := by decide +kernel
theorem dX9_settle_121 : decode cX9_settle 121 = .ok (.iload_n 1, 1) := by decide +kernel
theorem dX9_settle_122 : decode cX9_settle 122 = .ok (.invokevirtual 64, 3) := by decide +kernel
theorem dX9_settle_125 : decode cX9_settle 125 = .ok (.istore_n 2, 1) := by decide +kernel
theorem dX9_settle_126 : decode cX9_settle 126 = .ok (.aload_n 0, 1) := by decide +kernel
theorem dX9_settle_127 : decode cX9_settle 127 = .ok (.getfield 9, 3) := by decide +kernel
theorem dX9_settle_130 : decode cX9_settle 130 = .ok (.iload_n 2, 1) := by decide +kernel
theorem dX9_settle_131 : decode cX9_settle 131 = .ok (.invokevirtual 68, 3) := by decide +kernel
theorem dX9_settle_134 : decode cX9_settle 134 = .ok (.astore_n 3, 1) := by decide +kernel
theorem dX9_settle_135 : decode cX9_settle 135 = .ok (.iload_n 2, 1) := by decide +kernel
theorem dX9_settle_136 : decode cX9_settle 136 = .ok (.invokestatic 72, 3) := by decide +kernel
theorem dX9_settle_139 : decode cX9_settle 139 = .ok (.ifCond .eq 24, 3) := by decide +kernel
theorem dX9_settle_142 : decode cX9_settle 142 = .ok (.aload_n 3, 1) := by decide +kernel
theorem dX9_settle_143 : decode cX9_settle 143 = .ok (.ifnull 20, 3) := by decide +kernel
theorem dX9_settle_146 : decode cX9_settle 146 = .ok (.aload_n 0, 1) := by decide +kernel
theorem dX9_settle_147 : decode cX9_settle 147 = .ok (.getfield 15, 3) := by decide +kernel
theorem dX9_settle_150 : decode cX9_settle 150 = .ok (.iload_n 2, 1) := by decide +kernel
theorem dX9_settle_151 : decode cX9_settle 151 = .ok (.invokevirtual 76, 3) := by decide +kernel
theorem dX9_settle_154 : decode cX9_settle 154 = .ok (.ifCond .ne 9, 3) := by decide +kernel
theorem dX9_settle_157 : decode cX9_settle 157 = .ok (.aload_n 0, 1) := by decide +kernel
theorem dX9_settle_158 : decode cX9_settle 158 = .ok (.iload_n 2, 1) := by decide +kernel
theorem dX9_settle_159 : decode cX9_settle 159 = .ok (.aload_n 3, 1) := by decide +kernel
theorem dX9_settle_160 : decode cX9_settle 160 = .ok (.invokevirtual 79, 3) := by decide +kernel
theorem dX9_settle_163 : decode cX9_settle 163 = .ok (.iinc 1 1, 3) := by decide +kernel
theorem dX9_settle_166 : decode cX9_settle 166 = .ok (.goto (-60), 3) := by decide +kernel
theorem dX9_settle_169 : decode cX9_settle 169 = .ok (.return_, 1) := by decide +kernel
theorem dX9_exponentAt_0 : decode cX9_exponentAt 0 = .ok (.iload_n 1, 1) := by decide +kernel
theorem dX9_exponentAt_1 : decode cX9_exponentAt 1 = .ok (.invokestatic 72, 3) := by decide +kernel
theorem dX9_exponentAt_4 : decode cX9_exponentAt 4 = .ok (.ifCond .eq 25, 3) := by decide +kernel
theorem dX9_exponentAt_7 : decode cX9_exponentAt 7 = .ok (.iload_n 2, 1) := by decide +kernel
theorem dX9_exponentAt_8 : decode cX9_exponentAt 8 = .ok (.ifCond .lt 21, 3) := by decide +kernel
theorem dX9_exponentAt_11 : decode cX9_exponentAt 11 = .ok (.iload_n 2, 1) := by decide +kernel
theorem dX9_exponentAt_12 : decode cX9_exponentAt 12 = .ok (.iconst 3, 1) := by decide +kernel
theorem dX9_exponentAt_13 : decode cX9_exponentAt 13 = .ok (.if_icmp .ge 16, 3) := by decide +kernel
theorem dX9_exponentAt_16 : decode cX9_exponentAt 16 = .ok (.aload_n 0, 1) := by decide +kernel
theorem dX9_exponentAt_17 : decode cX9_exponentAt 17 = .ok (.getfield 19, 3) := by decide +kernel
theorem dX9_exponentAt_20 : decode cX9_exponentAt 20 = .ok (.iload_n 1, 1) := by decide +kernel
theorem dX9_exponentAt_21 : decode cX9_exponentAt 21 = .ok (.iconst 3, 1) := by decide +kernel
theorem dX9_exponentAt_22 : decode cX9_exponentAt 22 = .ok (.imul, 1) := by decide +kernel
theorem dX9_exponentAt_23 : decode cX9_exponentAt 23 = .ok (.iload_n 2, 1) := by decide +kernel
theorem dX9_exponentAt_24 : decode cX9_exponentAt 24 = .ok (.iadd, 1) := by decide +kernel
theorem dX9_exponentAt_25 : decode cX9_exponentAt 25 = .ok (.iaload, 1) := by decide +kernel
theorem dX9_exponentAt_26 : decode cX9_exponentAt 26 = .ok (.goto 4, 3) := by decide +kernel
theorem dX9_exponentAt_29 : decode cX9_exponentAt 29 = .ok (.iconst 0, 1) := by decide +kernel
theorem dX9_exponentAt_30 : decode cX9_exponentAt 30 = .ok (.ireturn, 1) := by decide +kernel
theorem dX10_init_0 : decode cX10_init 0 = .ok (.aload_n 0, 1) := by decide +kernel
theorem dX10_init_1 : decode cX10_init 1 = .ok (.invokespecial 3, 3) := by decide +kernel
theorem dX10_init_4 : decode cX10_init 4 = .ok (.aload_n 0, 1) := by decide +kernel
theorem dX10_init_5 : decode cX10_init 5 = .ok (.aload_n 1, 1) := by decide +kernel
theorem dX10_init_6 : decode cX10_init 6 = .ok (.putfield 9, 3) := by decide +kernel
theorem dX10_init_9 : decode cX10_init 9 = .ok (.aload_n 0, 1) := by decide +kernel
theorem dX10_init_10 : decode cX10_init 10 = .ok (.aload_n 2, 1) := by decide +kernel
theorem dX10_init_11 : decode cX10_init 11 = .ok (.putfield 15, 3) := by decide +kernel
theorem dX10_init_14 : decode cX10_init 14 = .ok (.aload_n 0, 1) := by decide +kernel
theorem dX10_init_15 : decode cX10_init 15 = .ok (.sipush 288, 3) := by decide +kernel
theorem dX10_init_18 : decode cX10_init 18 = .ok (.newarray .int, 2) := by decide +kernel
theorem dX10_init_20 : decode cX10_init 20 = .ok (.putfield 19, 3) := by decide +kernel
theorem dX10_init_23 : decode cX10_init 23 = .ok (.aload_n 0, 1) := by decide +kernel
theorem dX10_init_24 : decode cX10_init 24 = .ok (.sipush 288, 3) := by decide +kernel
theorem dX10_init_27 : decode cX10_init 27 = .ok (.newarray .int, 2) := by decide +kernel
theorem dX10_init_29 : decode cX10_init 29 = .ok (.putfield 23, 3) := by decide +kernel
theorem dX10_init_32 : decode cX10_init 32 = .ok (.aload_n 0, 1) := by decide +kernel
theorem dX10_init_33 : decode cX10_init 33 = .ok (.sipush 288, 3) := by decide +kernel
theorem dX10_init_36 : decode cX10_init 36 = .ok (.newarray .int, 2) := by decide +kernel
theorem dX10_init_38 : decode cX10_init 38 = .ok (.putfield 26, 3) := by decide +kernel
theorem dX10_init_41 : decode cX10_init 41 = .ok (.aload_n 0, 1) := by decide +kernel
theorem dX10_init_42 : decode cX10_init 42 = .ok (.bipush 32, 2) := by decide +kernel
theorem dX10_init_44 : decode cX10_init 44 = .ok (.newarray .int, 2) := by decide +kernel
theorem dX10_init_46 : decode cX10_init 46 = .ok (.putfield 29, 3) := by decide +kernel
theorem dX10_init_49 : decode cX10_init 49 = .ok (.aload_n 0, 1) := by decide +kernel
theorem dX10_init_50 : decode cX10_init 50 = .ok (.iconst (-1), 1) := by decide +kernel
theorem dX10_init_51 : decode cX10_init 51 = .ok (.putfield 32, 3) := by decide +kernel
theorem dX10_init_54 : decode cX10_init 54 = .ok (.return_, 1) := by decide +kernel
theorem dX10_settle_0 : decode cX10_settle 0 = .ok (.aload_n 0, 1) := by decide +kernel
theorem dX10_settle_1 : decode cX10_settle 1 = .ok (.getfield 32, 3) := by decide +kernel
theorem dX10_settle_4 : decode cX10_settle 4 = .ok (.aload_n 0, 1) := by decide +kernel
theorem dX10_settle_5 : decode cX10_settle 5 = .ok (.getfield 9, 3) := by decide +kernel
theorem dX10_settle_8 : decode cX10_settle 8 = .ok (.getfield 36, 3) := by decide +kernel
theorem dX10_settle_11 : decode cX10_settle 11 = .ok (.if_icmp .ne 4, 3) := by decide +kernel
theorem dX10_settle_14 : decode cX10_settle 14 = .ok (.return_, 1) := by decide +kernel
theorem dX10_settle_15 : decode cX10_settle 15 = .ok (.aload_n 0, 1) := by decide +kernel
theorem dX10_settle_16 : decode cX10_settle 16 = .ok (.aload_n 0, 1) := by decide +kernel
theorem dX10_settle_17 : decode cX10_settle 17 = .ok (.getfield 9, 3) := by decide +kernel
theorem dX10_settle_20 : decode cX10_settle 20 = .ok (.getfield 36, 3) := by decide +kernel
theorem dX10_settle_23 : decode cX10_settle 23 = .ok (.putfield 32, 3) := by decide +kernel
theorem dX10_settle_26 : decode cX10_settle 26 = .ok (.aload_n 0, 1) := by decide +kernel
theorem dX10_settle_27 : decode cX10_settle 27 = .ok (.getfield 15, 3) := by decide +kernel
theorem dX10_settle_30 : decode cX10_settle 30 = .ok (.invokevirtual 39, 3) := by decide +kernel
theorem dX10_settle_33 : decode cX10_settle 33 = .ok (.iconst 0, 1) := by decide +kernel
theorem dX10_settle_34 : decode cX10_settle 34 = .ok (.istore_n 1, 1) := by decide +kernel
theorem dX10_settle_35 : decode cX10_settle 35 = .ok (.iload_n 1, 1) := by decide +kernel
theorem dX10_settle_36 : decode cX10_settle 36 = .ok (.sipush 288, 3) := by decide +kernel
theorem dX10_settle_39 : decode cX10_settle 39 = .ok (.if_icmp .ge 33, 3) := by decide +kernel
theorem dX10_settle_42 : decode cX10_settle 42 = .ok (.aload_n 0, 1) := by decide +kernel
theorem dX10_settle_43 : decode cX10_settle 43 = .ok (.getfield 19, 3) := by decide +kernel
theorem dX10_settle_46 : decode cX10_settle 46 = .ok (.iload_n 1, 1) := by decide +kernel
theorem dX10_settle_47 : decode cX10_settle 47 = .ok (.aload_n 0, 1) := by decide +kernel
theorem dX10_settle_48 : decode cX10_settle 48 = .ok (.getfield 9, 3) := by decide +kernel
theorem dX10_settle_51 : decode cX10_settle 51 = .ok (.iload_n 1, 1) := by decide +kernel
theorem dX10_settle_52 : decode cX10_settle 52 = .ok (.invokevirtual 44, 3) := by decide +kernel
theorem dX10_settle_55 : decode cX10_settle 55 = .ok (.getfield 48, 3) := by decide +kernel
theorem dX10_settle_58 : decode cX10_settle 58 = .ok (.iastore, 1) := by decide +kernel
theorem dX10_settle_59 : decode cX10_settle 59 = .ok (.aload_n 0, 1) := by decide +kernel
theorem dX10_settle_60 : decode cX10_settle 60 = .ok (.getfield 23, 3) := by decide +kernel
theorem dX10_settle_63 : decode cX10_settle 63 = .ok (.iload_n 1, 1) := by decide +kernel
theorem dX10_settle_64 : decode cX10_settle 64 = .ok (.iconst 0, 1) := by decide +kernel
theorem dX10_settle_65 : decode cX10_settle 65 = .ok (.iastore, 1) := by decide +kernel
theorem dX10_settle_66 : decode cX10_settle 66 = .ok (.iinc 1 1, 3) := by decide +kernel
theorem dX10_settle_69 : decode cX10_settle 69 = .ok (.goto (-34), 3) := by decide +kernel
theorem dX10_settle_72 : decode cX10_settle 72 = .ok (.iconst 0, 1) := by decide +kernel
theorem dX10_settle_73 : decode cX10_settle 73 = .ok (.istore_n 1, 1) := by decide +kernel
theorem dX10_settle_74 : decode cX10_settle 74 = .ok (.iload_n 1, 1) := by decide +kernel
theorem dX10_settle_75 : decode cX10_settle 75 = .ok (.aload_n 0, 1) := by decide +kernel
theorem dX10_settle_76 : decode cX10_settle 76 = .ok (.getfield 15, 3) := by decide +kernel
theorem dX10_settle_79 : decode cX10_settle 79 = .ok (.invokevirtual 53, 3) := by decide +kernel
theorem dX10_settle_82 : decode cX10_settle 82 = .ok (.if_icmp .ge 44, 3) := by decide +kernel
theorem dX10_settle_85 : decode cX10_settle 85 = .ok (.aload_n 0, 1) := by decide +kernel
theorem dX10_settle_86 : decode cX10_settle 86 = .ok (.getfield 15, 3) := by decide +kernel
theorem dX10_settle_89 : decode cX10_settle 89 = .ok (.iload_n 1, 1) := by decide +kernel
theorem dX10_settle_90 : decode cX10_settle 90 = .ok (.invokevirtual 57, 3) := by decide +kernel
theorem dX10_settle_93 : decode cX10_settle 93 = .ok (.istore_n 2, 1) := by decide +kernel
theorem dX10_settle_94 : decode cX10_settle 94 = .ok (.aload_n 0, 1) := by decide +kernel
theorem dX10_settle_95 : decode cX10_settle 95 = .ok (.getfield 9, 3) := by decide +kernel
theorem dX10_settle_98 : decode cX10_settle 98 = .ok (.iload_n 2, 1) := by decide +kernel
theorem dX10_settle_99 : decode cX10_settle 99 = .ok (.invokevirtual 61, 3) := by decide +kernel
theorem dX10_settle_102 : decode cX10_settle 102 = .ok (.astore_n 3, 1) := by decide +kernel
theorem dX10_settle_103 : decode cX10_settle 103 = .ok (.iload_n 2, 1) := by decide +kernel
theorem dX10_settle_104 : decode cX10_settle 104 = .ok (.invokestatic 65, 3) := by decide +kernel
theorem dX10_settle_107 : decode cX10_settle 107 = .ok (.ifCond .eq 13, 3) := by decide +kernel
theorem dX10_settle_110 : decode cX10_settle 110 = .ok (.aload_n 3, 1) := by decide +kernel
theorem dX10_settle_111 : decode cX10_settle 111 = .ok (.ifnull 9, 3) := by decide +kernel
theorem dX10_settle_114 : decode cX10_settle 114 = .ok (.aload_n 0, 1) := by decide +kernel
theorem dX10_settle_115 : decode cX10_settle 115 = .ok (.iload_n 2, 1) := by decide +kernel
theorem dX10_settle_116 : decode cX10_settle 116 = .ok (.aload_n 3, 1) := by decide +kernel
theorem dX10_settle_117 : decode cX10_settle 117 = .ok (.invokevirtual 69, 3) := by decide +kernel
theorem dX10_settle_120 : decode cX10_settle 120 = .ok (.iinc 1 1, 3) := by decide +kernel
theorem dX10_settle_123 : decode cX10_settle 123 = .ok (.goto (-49), 3) := by decide +kernel
theorem dX10_settle_126 : decode cX10_settle 126 = .ok (.return_, 1) := by decide +kernel
theorem dX10_valueAt_0 : decode cX10_valueAt 0 = .ok (.iload_n 1, 1) := by decide +kernel
theorem dX10_valueAt_1 : decode cX10_valueAt 1 = .ok (.invokestatic 65, 3) := by decide +kernel
theorem dX10_valueAt_4 : decode cX10_valueAt 4 = .ok (.ifCond .eq 12, 3) := by decide +kernel
theorem dX10_valueAt_7 : decode cX10_valueAt 7 = .ok (.aload_n 0, 1) := by decide +kernel
theorem dX10_valueAt_8 : decode cX10_valueAt 8 = .ok (.getfield 19, 3) := by decide +kernel
theorem dX10_valueAt_11 : decode cX10_valueAt 11 = .ok (.iload_n 1, 1) := by decide +kernel
theorem dX10_valueAt_12 : decode cX10_valueAt 12 = .ok (.iaload, 1) := by decide +kernel
theorem dX10_valueAt_13 : decode cX10_valueAt 13 = .ok (.goto 4, 3) := by decide +kernel
theorem dX10_valueAt_16 : decode cX10_valueAt 16 = .ok (.iconst 0, 1) := by decide +kernel
theorem dX10_valueAt_17 : decode cX10_valueAt 17 = .ok (.ireturn, 1) := by decide +kernel
theorem dX10_errorAt_0 : decode cX10_errorAt 0 = .ok (.iload_n 1, 1) := by decide +kernel
theorem dX10_errorAt_1 : decode cX10_errorAt 1 = .ok (.invokestatic 65, 3) := by decide +kernel
theorem dX10_errorAt_4 : decode cX10_errorAt 4 = .ok (.ifCond .eq 12, 3) := by decide +kernel
theorem dX10_errorAt_7 : decode cX10_errorAt 7 = .ok (.aload_n 0, 1) := by decide +kernel
theorem dX10_errorAt_8 : decode cX10_errorAt 8 = .ok (.getfield 23, 3) := by decide +kernel
theorem dX10_errorAt_11 : decode cX10_errorAt 11 = .ok (.iload_n 1, 1) := by decide +kernel
theorem dX10_errorAt_12 : decode cX10_errorAt 12 = .ok (.iaload, 1) := by decide +kernel
theorem dX10_errorAt_13 : decode cX10_errorAt 13 = .ok (.goto 4, 3) := by decide +kernel
theorem dX10_errorAt_16 : decode cX10_errorAt 16 = .ok (.iconst 0, 1) := by decide +kernel
theorem dX10_errorAt_17 : decode cX10_errorAt 17 = .ok (.ireturn, 1) := by decide +kernel
theorem dX10_errors_0 : decode cX10_errors 0 = .ok (.iconst 0, 1) := by decide +kernel
theorem dX10_errors_1 : decode cX10_errors 1 = .ok (.istore_n 1, 1) := by decide +kernel
theorem dX10_errors_2 : decode cX10_errors 2 = .ok (.iconst 0, 1) := by decide +kernel
theorem dX10_errors_3 : decode cX10_errors 3 = .ok (.istore_n 2, 1) := by decide +kernel
theorem dX10_errors_4 : decode cX10_errors 4 = .ok (.iload_n 2, 1) := by decide +kernel
theorem dX10_errors_5 : decode cX10_errors 5 = .ok (.sipush 288, 3) := by decide +kernel
theorem dX10_errors_8 : decode cX10_errors 8 = .ok (.if_icmp .ge 21, 3) := by decide +kernel
theorem dX10_errors_11 : decode cX10_errors 11 = .ok (.aload_n 0, 1) := by decide +kernel
theorem dX10_errors_12 : decode cX10_errors 12 = .ok (.getfield 23, 3) := by decide +kernel
theorem dX10_errors_15 : decode cX10_errors 15 = .ok (.iload_n 2, 1) := by decide +kernel
theorem dX10_errors_16 : decode cX10_errors 16 = .ok (.iaload, 1) := by decide +kernel
theorem dX10_errors_17 : decode cX10_errors 17 = .ok (.ifCond .eq 6, 3) := by decide +kernel
theorem dX10_errors_20 : decode cX10_errors 20 = .ok (.iinc 1 1, 3) := by decide +kernel
theorem dX10_errors_23 : decode cX10_errors 23 = .ok (.iinc 2 1, 3) := by decide +kernel
theorem dX10_errors_26 : decode cX10_errors 26 = .ok (.goto (-22), 3) := by decide +kernel
theorem dX10_errors_29 : decode cX10_errors 29 = .ok (.iload_n 1, 1) := by decide +kernel
theorem dX10_errors_30 : decode cX10_errors 30 = .ok (.ireturn, 1) := by decide +kernel
theorem dX11_init_0 : decode cX11_init 0 = .ok (.aload_n 0, 1) := by decide +kernel
theorem dX11_init_1 : decode cX11_init 1 = .ok (.invokespecial 3, 3) := by decide +kernel
theorem dX11_init_4 : decode cX11_init 4 = .ok (.aload_n 0, 1) := by decide +kernel
theorem dX11_init_5 : decode cX11_init 5 = .ok (.new 9, 3) := by decide +kernel
theorem dX11_init_8 : decode cX11_init 8 = .ok (.dup, 1) := by decide +kernel
theorem dX11_init_9 : decode cX11_init 9 = .ok (.invokespecial 11, 3) := by decide +kernel
theorem dX11_init_12 : decode cX11_init 12 = .ok (.putfield 12, 3) := by decide +kernel
theorem dX11_init_15 : decode cX11_init 15 = .ok (.aload_n 0, 1) := by decide +kernel
theorem dX11_init_16 : decode cX11_init 16 = .ok (.new 16, 3) := by decide +kernel
theorem dX11_init_19 : decode cX11_init 19 = .ok (.dup, 1) := by decide +kernel
theorem dX11_init_20 : decode cX11_init 20 = .ok (.invokespecial 18, 3) := by decide +kernel
theorem dX11_init_23 : decode cX11_init 23 = .ok (.putfield 19, 3) := by decide +kernel
theorem dX11_init_26 : decode cX11_init 26 = .ok (.aload_n 0, 1) := by decide +kernel
theorem dX11_init_27 : decode cX11_init 27 = .ok (.new 23, 3) := by decide +kernel
theorem dX11_init_30 : decode cX11_init 30 = .ok (.dup, 1) := by decide +kernel
theorem dX11_init_31 : decode cX11_init 31 = .ok (.aload_n 0, 1) := by decide +kernel
theorem dX11_init_32 : decode cX11_init 32 = .ok (.getfield 19, 3) := by decide +kernel
theorem dX11_init_35 : decode cX11_init 35 = .ok (.invokespecial 25, 3) := by decide +kernel
theorem dX11_init_38 : decode cX11_init 38 = .ok (.putfield 28, 3) := by decide +kernel
theorem dX11_init_41 : decode cX11_init 41 = .ok (.aload_n 0, 1) := by decide +kernel
theorem dX11_init_42 : decode cX11_init 42 = .ok (.new 32, 3) := by decide +kernel
theorem dX11_init_45 : decode cX11_init 45 = .ok (.dup, 1) := by decide +kernel
theorem dX11_init_46 : decode cX11_init 46 = .ok (.aload_n 0, 1) := by decide +kernel
theorem dX11_init_47 : decode cX11_init 47 = .ok (.getfield 19, 3) := by decide +kernel
theorem dX11_init_50 : decode cX11_init 50 = .ok (.aload_n 0, 1) := by decide +kernel
theorem dX11_init_51 : decode cX11_init 51 = .ok (.getfield 28, 3) := by decide +kernel
theorem dX11_init_54 : decode cX11_init 54 = .ok (.invokespecial 34, 3) := by decide +kernel
theorem dX11_init_57 : decode cX11_init 57 = .ok (.putfield 37, 3) := by decide +kernel
theorem dX11_init_60 : decode cX11_init 60 = .ok (.aload_n 0, 1) := by decide +kernel
theorem dX11_init_61 : decode cX11_init 61 = .ok (.new 41, 3) := by decide +kernel
theorem dX11_init_64 : decode cX11_init 64 = .ok (.dup, 1) := by decide +kernel
theorem dX11_init_65 : decode cX11_init 65 = .ok (.aload_n 0, 1) := by decide +kernel
theorem dX11_init_66 : decode cX11_init 66 = .ok (.getfield 19, 3) := by decide +kernel
theorem dX11_init_69 : decode cX11_init 69 = .ok (.invokespecial 43, 3) := by decide +kernel
theorem dX11_init_72 : decode cX11_init 72 = .ok (.putfield 44, 3) := by decide +kernel
theorem dX11_init_75 : decode cX11_init 75 = .ok (.aload_n 0, 1) := by decide +kernel
theorem dX11_init_76 : decode cX11_init 76 = .ok (.new 48, 3) := by decide +kernel
theorem dX11_init_79 : decode cX11_init 79 = .ok (.dup, 1) := by decide +kernel
theorem dX11_init_80 : decode cX11_init 80 = .ok (.aload_n 0, 1) := by decide +kernel
theorem dX11_init_81 : decode cX11_init 81 = .ok (.getfield 19, 3) := by decide +kernel
theorem dX11_init_84 : decode cX11_init 84 = .ok (.aload_n 0, 1) := by decide +kernel
theorem dX11_init_85 : decode cX11_init 85 = .ok (.getfield 28, 3) := by decide +kernel
theorem dX11_init_88 : decode cX11_init 88 = .ok (.invokespecial 50, 3) := by decide +kernel
theorem dX11_init_91 : decode cX11_init 91 = .ok (.putfield 51, 3) := by decide +kernel
theorem dX11_init_94 : decode cX11_init 94 = .ok (.aload_n 0, 1) := by decide +kernel
theorem dX11_init_95 : decode cX11_init 95 = .ok (.new 55, 3) := by decide +kernel
theorem dX11_init_98 : decode cX11_init 98 = .ok (.dup, 1) := by decide +kernel
theorem dX11_init_99 : decode cX11_init 99 = .ok (.aload_n 0, 1) := by decide +kernel
theorem dX11_init_100 : decode cX11_init 100 = .ok (.getfield 19, 3) := by decide +kernel
theorem dX11_init_103 : decode cX11_init 103 = .ok (.aload_n 0, 1) := by decide +kernel
theorem dX11_init_104 : decode cX11_init 104 = .ok (.getfield 28, 3) := by decide +kernel
theorem dX11_init_107 : decode cX11_init 107 = .ok (.invokespecial 57, 3) := by decide +kernel
theorem dX11_init_110 : decode cX11_init 110 = .ok (.putfield 58, 3) := by decide +kernel
theorem dX11_init_113 : decode cX11_init 113 = .ok (.aload_n 0, 1) := by decide +kernel
theorem dX11_init_114 : decode cX11_init 114 = .ok (.new 62, 3) := by decide +kernel
theorem dX11_init_117 : decode cX11_init 117 = .ok (.dup, 1) := by decide +kernel
theorem dX11_init_118 : decode cX11_init 118 = .ok (.aload_n 0, 1) := by decide +kernel
theorem dX11_init_119 : decode cX11_init 119 = .ok (.getfield 19, 3) := by decide +kernel
theorem dX11_init_122 : decode cX11_init 122 = .ok (.aload_n 0, 1) := by decide +kernel
theorem dX11_init_123 : decode cX11_init 123 = .ok (.getfield 28, 3) := by decide +kernel
theorem dX11_init_126 : decode cX11_init 126 = .ok (.aload_n 0, 1) := by decide +kernel
theorem dX11_init_127 : decode cX11_init 127 = .ok (.getfield 44, 3) := by decide +kernel
theorem dX11_init_130 : decode cX11_init 130 = .ok (.aload_n 0, 1) := by decide +kernel
theorem dX11_init_131 : decode cX11_init 131 = .ok (.getfield 51, 3) := by decide +kernel
theorem dX11_init_134 : decode cX11_init 134 = .ok (.aload_n 0, 1) := by decide +kernel
theorem dX11_init_135 : decode cX11_init 135 = .ok (.getfield 58, 3) := by decide +kernel
theorem dX11_init_138 : decode cX11_init 138 = .ok (.invokespecial 64, 3) := by decide +kernel
theorem dX11_init_141 : decode cX11_init 141 = .ok (.putfield 67, 3) := by decide +kernel
theorem dX11_init_144 : decode cX11_init 144 = .ok (.aload_n 0, 1) := by decide +kernel
theorem dX11_init_145 : decode cX11_init 145 = .ok (.new 71, 3) := by decide +kernel
theorem dX11_init_148 : decode cX11_init 148 = .ok (.dup, 1) := by decide +kernel
theorem dX11_init_149 : decode cX11_init 149 = .ok (.aload_n 0, 1) := by decide +kernel
theorem dX11_init_150 : decode cX11_init 150 = .ok (.getfield 37, 3) := by decide +kernel
theorem dX11_init_153 : decode cX11_init 153 = .ok (.invokespecial 73, 3) := by decide +kernel
theorem dX11_init_156 : decode cX11_init 156 = .ok (.putfield 76, 3) := by decide +kernel
theorem dX11_init_159 : decode cX11_init 159 = .ok (.return_, 1) := by decide +kernel
theorem dX11_feed_0 : decode cX11_feed 0 = .ok (.aload_n 0, 1) := by decide +kernel
theorem dX11_feed_1 : decode cX11_feed 1 = .ok (.getfield 12, 3) := by decide +kernel
theorem dX11_feed_4 : decode cX11_feed 4 = .ok (.lload_n 1, 1) := by decide +kernel
theorem dX11_feed_5 : decode cX11_feed 5 = .ok (.invokevirtual 80, 3) := by decide +kernel
theorem dX11_feed_8 : decode cX11_feed 8 = .ok (.aload_n 0, 1) := by decide +kernel
theorem dX11_feed_9 : decode cX11_feed 9 = .ok (.getfield 12, 3) := by decide +kernel
theorem dX11_feed_12 : decode cX11_feed 12 = .ok (.lload_n 3, 1) := by decide +kernel
theorem dX11_feed_13 : decode cX11_feed 13 = .ok (.invokevirtual 80, 3) := by decide +kernel
theorem dX11_feed_16 : decode cX11_feed 16 = .ok (.aload_n 0, 1) := by decide +kernel
theorem dX11_feed_17 : decode cX11_feed 17 = .ok (.getfield 12, 3) := by decide +kernel
theorem dX11_feed_20 : decode cX11_feed 20 = .ok (.lload 5, 2) := by decide +kernel
theorem dX11_feed_22 : decode cX11_feed 22 = .ok (.invokevirtual 80, 3) := by decide +kernel
theorem dX11_feed_25 : decode cX11_feed 25 = .ok (.aload_n 0, 1) := by decide +kernel
theorem dX11_feed_26 : decode cX11_feed 26 = .ok (.getfield 12, 3) := by decide +kernel
theorem dX11_feed_29 : decode cX11_feed 29 = .ok (.getfield 84, 3) := by decide +kernel
theorem dX11_feed_32 : decode cX11_feed 32 = .ok (.ireturn, 1) := by decide +kernel
theorem dX11_formula_0 : decode cX11_formula 0 = .ok (.iload_n 1, 1) := by decide +kernel
theorem dX11_formula_1 : decode cX11_formula 1 = .ok (.invokestatic 88, 3) := by decide +kernel
theorem dX11_formula_4 : decode cX11_formula 4 = .ok (.ifCond .ne 13, 3) := by decide +kernel
theorem dX11_formula_7 : decode cX11_formula 7 = .ok (.aload_n 0, 1) := by decide +kernel
theorem dX11_formula_8 : decode cX11_formula 8 = .ok (.getfield 12, 3) := by decide +kernel
theorem dX11_formula_11 : decode cX11_formula 11 = .ok (.iconst 0, 1) := by decide +kernel
theorem dX11_formula_12 : decode cX11_formula 12 = .ok (.putfield 84, 3) := by decide +kernel
theorem dX11_formula_15 : decode cX11_formula 15 = .ok (.iconst (-1), 1) := by decide +kernel
theorem dX11_formula_16 : decode cX11_formula 16 = .ok (.ireturn, 1) := by decide +kernel
theorem dX11_formula_17 : decode cX11_formula 17 = .ok (.aload_n 0, 1) := by decide +kernel
theorem dX11_formula_18 : decode cX11_formula 18 = .ok (.getfield 12, 3) := by decide +kernel
theorem dX11_formula_21 : decode cX11_formula 21 = .ok (.iload_n 1, 1) := by decide +kernel
theorem dX11_formula_22 : decode cX11_formula 22 = .ok (.invokevirtual 92, 3) := by decide +kernel
theorem dX11_formula_25 : decode cX11_formula 25 = .ok (.astore_n 2, 1) := by decide +kernel
theorem dX11_formula_26 : decode cX11_formula 26 = .ok (.aload_n 0, 1) := by decide +kernel
theorem dX11_formula_27 : decode cX11_formula 27 = .ok (.getfield 12, 3) := by decide +kernel
theorem dX11_formula_30 : decode cX11_formula 30 = .ok (.iconst 0, 1) := by decide +kernel
theorem dX11_formula_31 : decode cX11_formula 31 = .ok (.putfield 84, 3) := by decide +kernel
theorem dX11_formula_34 : decode cX11_formula 34 = .ok (.aload_n 2, 1) := by decide +kernel
theorem dX11_formula_35 : decode cX11_formula 35 = .ok (.ifnonnull 11, 3) := by decide +kernel
theorem dX11_formula_38 : decode cX11_formula 38 = .ok (.aload_n 0, 1) := by decide +kernel
theorem dX11_formula_39 : decode cX11_formula 39 = .ok (.getfield 12, 3) := by decide +kernel
theorem dX11_formula_42 : decode cX11_formula 42 = .ok (.getfield 96, 3) := by decide +kernel
theorem dX11_formula_45 : decode cX11_formula 45 = .ok (.ireturn, 1) := by decide +kernel
theorem dX11_formula_46 : decode cX11_formula 46 = .ok (.aload_n 0, 1) := by decide +kernel
theorem dX11_formula_47 : decode cX11_formula 47 = .ok (.getfield 19, 3) := by decide +kernel
theorem dX11_formula_50 : decode cX11_formula 50 = .ok (.iload_n 1, 1) := by decide +kernel
theorem dX11_formula_51 : decode cX11_formula 51 = .ok (.new 99, 3) := by decide +kernel
theorem dX11_formula_54 : decode cX11_formula 54 = .ok (.dup, 1) := by decide +kernel
theorem dX11_formula_55 : decode cX11_formula 55 = .ok (.iconst 2, 1) := by decide +kernel
theorem dX11_formula_56 : decode cX11_formula 56 = .ok (.iconst 0, 1) := by decide +kernel
theorem dX11_formula_57 : decode cX11_formula 57 = .ok (.aload_n 2, 1) := by decide +kernel
theorem dX11_formula_58 : decode cX11_formula 58 = .ok (.invokespecial 101, 3) := by decide +kernel
theorem dX11_formula_61 : decode cX11_formula 61 = .ok (.invokevirtual 104, 3) := by decide +kernel
theorem dX11_formula_64 : decode cX11_formula 64 = .ok (.iconst 0, 1) := by decide +kernel
theorem dX11_formula_65 : decode cX11_formula 65 = .ok (.ireturn, 1) := by decide +kernel
theorem dX11_number_0 : decode cX11_number 0 = .ok (.iload_n 1, 1) := by decide +kernel
theorem dX11_number_1 : decode cX11_number 1 = .ok (.invokestatic 88, 3) := by decide +kernel
theorem dX11_number_4 : decode cX11_number 4 = .ok (.ifCond .ne 5, 3) := by decide +kernel
theorem dX11_number_7 : decode cX11_number 7 = .ok (.iconst 0, 1) := by decide +kernel
theorem dX11_number_8 : decode cX11_number 8 = .ok (.ireturn, 1) := by decide +kernel
theorem dX11_number_9 : decode cX11_number 9 = .ok (.aload_n 0, 1) := by decide +kernel
theorem dX11_number_10 : decode cX11_number 10 = .ok (.getfield 19, 3) := by decide +kernel
theorem dX11_number_13 : decode cX11_number 13 = .ok (.iload_n 1, 1) := by decide +kernel
theorem dX11_number_14 : decode cX11_number 14 = .ok (.new 99, 3) := by decide +kernel
theorem dX11_number_17 : decode cX11_number 17 = .ok (.dup, 1) := by decide +kernel
theorem dX11_number_18 : decode cX11_number 18 = .ok (.iconst 1, 1) := by decide +kernel
theorem dX11_number_19 : decode cX11_number 19 = .ok (.iload_n 2, 1) := by decide +kernel
theorem dX11_number_20 : decode cX11_number 20 = .ok (.aconst_null, 1) := by decide +kernel
theorem dX11_number_21 : decode cX11_number 21 = .ok (.invokespecial 101, 3) := by decide +kernel
theorem dX11_number_24 : decode cX11_number 24 = .ok (.invokevirtual 104, 3) := by decide +kernel
theorem dX11_number_27 : decode cX11_number 27 = .ok (.iconst 1, 1) := by decide +kernel
theorem dX11_number_28 : decode cX11_number 28 = .ok (.ireturn, 1) := by decide +kernel
theorem dX11_empty_0 : decode cX11_empty 0 = .ok (.iload_n 1, 1) := by decide +kernel
theorem dX11_empty_1 : decode cX11_empty 1 = .ok (.invokestatic 88, 3) := by decide +kernel
theorem dX11_empty_4 : decode cX11_empty 4 = .ok (.ifCond .ne 5, 3) := by decide +kernel
theorem dX11_empty_7 : decode cX11_empty 7 = .ok (.iconst 0, 1) := by decide +kernel
theorem dX11_empty_8 : decode cX11_empty 8 = .ok (.ireturn, 1) := by decide +kernel
theorem dX11_empty_9 : decode cX11_empty 9 = .ok (.aload_n 0, 1) := by decide +kernel
theorem dX11_empty_10 : decode cX11_empty 10 = .ok (.getfield 19, 3) := by decide +kernel
theorem dX11_empty_13 : decode cX11_empty 13 = .ok (.iload_n 1, 1) := by decide +kernel
theorem dX11_empty_14 : decode cX11_empty 14 = .ok (.aload_n 0, 1) := by decide +kernel
theorem dX11_empty_15 : decode cX11_empty 15 = .ok (.getfield 19, 3) := by decide +kernel
theorem dX11_empty_18 : decode cX11_empty 18 = .ok (.getfield 108, 3) := by decide +kernel
theorem dX11_empty_21 : decode cX11_empty 21 = .ok (.invokevirtual 104, 3) := by decide +kernel
theorem dX11_empty_24 : decode cX11_empty 24 = .ok (.iconst 1, 1) := by decide +kernel
theorem dX11_empty_25 : decode cX11_empty 25 = .ok (.ireturn, 1) := by decide +kernel
theorem dX11_copy_0 : decode cX11_copy 0 = .ok (.iload_n 1, 1) := by decide +kernel
theorem dX11_copy_1 : decode cX11_copy 1 = .ok (.invokestatic 88, 3) := by decide +kernel
theorem dX11_copy_4 : decode cX11_copy 4 = .ok (.ifCond .eq 10, 3) := by decide +kernel
theorem dX11_copy_7 : decode cX11_copy 7 = .ok (.iload_n 2, 1) := by decide +kernel
theorem dX11_copy_8 : decode cX11_copy 8 = .ok (.invokestatic 88, 3) := by decide +kernel
theorem dX11_copy_11 : decode cX11_copy 11 = .ok (.ifCond .ne 5, 3) := by decide +kernel
theorem dX11_copy_14 : decode cX11_copy 14 = .ok (.iconst 0, 1) := by decide +kernel
theorem dX11_copy_15 : decode cX11_copy 15 = .ok (.ireturn, 1) := by decide +kernel
theorem dX11_copy_16 : decode cX11_copy 16 = .ok (.aload_n 0, 1) := by decide +kernel
theorem dX11_copy_17 : decode cX11_copy 17 = .ok (.getfield 19, 3) := by decide +kernel
theorem dX11_copy_20 : decode cX11_copy 20 = .ok (.iload_n 1, 1) := by decide +kernel
theorem dX11_copy_21 : decode cX11_copy 21 = .ok (.iload_n 2, 1) := by decide +kernel
theorem dX11_copy_22 : decode cX11_copy 22 = .ok (.invokevirtual 112, 3) := by decide +kernel
theorem dX11_copy_25 : decode cX11_copy 25 = .ok (.astore_n 3, 1) := by decide +kernel
theorem dX11_copy_26 : decode cX11_copy 26 = .ok (.aload_n 3, 1) := by decide +kernel
theorem dX11_copy_27 : decode cX11_copy 27 = .ok (.ifnonnull 5, 3) := by decide +kernel
theorem dX11_copy_30 : decode cX11_copy 30 = .ok (.iconst 0, 1) := by decide +kernel
theorem dX11_copy_31 : decode cX11_copy 31 = .ok (.ireturn, 1) := by decide +kernel
theorem dX11_copy_32 : decode cX11_copy 32 = .ok (.aload_n 0, 1) := by decide +kernel
theorem dX11_copy_33 : decode cX11_copy 33 = .ok (.getfield 19, 3) := by decide +kernel
theorem dX11_copy_36 : decode cX11_copy 36 = .ok (.iload_n 2, 1) := by decide +kernel
theorem dX11_copy_37 : decode cX11_copy 37 = .ok (.aload_n 3, 1) := by decide +kernel
theorem dX11_copy_38 : decode cX11_copy 38 = .ok (.invokevirtual 104, 3) := by decide +kernel
theorem dX11_copy_41 : decode cX11_copy 41 = .ok (.iconst 1, 1) := by decide +kernel
theorem dX11_copy_42 : decode cX11_copy 42 = .ok (.ireturn, 1) := by decide +kernel
theorem dX11_unit_0 : decode cX11_unit 0 = .ok (.aload_n 0, 1) := by decide +kernel
theorem dX11_unit_1 : decode cX11_unit 1 = .ok (.getfield 19, 3) := by decide +kernel
theorem dX11_unit_4 : decode cX11_unit 4 = .ok (.iload_n 1, 1) := by decide +kernel
theorem dX11_unit_5 : decode cX11_unit 5 = .ok (.invokevirtual 116, 3) := by decide +kernel
theorem dX11_unit_8 : decode cX11_unit 8 = .ok (.iconst 1, 1) := by decide +kernel
theorem dX11_unit_9 : decode cX11_unit 9 = .ok (.if_icmp .eq 5, 3) := by decide +kernel
theorem dX11_unit_12 : decode cX11_unit 12 = .ok (.iconst 0, 1) := by decide +kernel
theorem dX11_unit_13 : decode cX11_unit 13 = .ok (.ireturn, 1) := by decide +kernel
theorem dX11_unit_14 : decode cX11_unit 14 = .ok (.iload_n 2, 1) := by decide +kernel
theorem dX11_unit_15 : decode cX11_unit 15 = .ok (.invokestatic 120, 3) := by decide +kernel
theorem dX11_unit_18 : decode cX11_unit 18 = .ok (.ifCond .eq 18, 3) := by decide +kernel
theorem dX11_unit_21 : decode cX11_unit 21 = .ok (.iload_n 3, 1) := by decide +kernel
theorem dX11_unit_22 : decode cX11_unit 22 = .ok (.invokestatic 120, 3) := by decide +kernel
theorem dX11_unit_25 : decode cX11_unit 25 = .ok (.ifCond .eq 11, 3) := by decide +kernel
theorem dX11_unit_28 : decode cX11_unit 28 = .ok (.iload 4, 2) := by decide +kernel
theorem dX11_unit_30 : decode cX11_unit 30 = .ok (.invokestatic 120, 3) := by decide +kernel
theorem dX11_unit_33 : decode cX11_unit 33 = .ok (.ifCond .ne 5, 3) := by decide +kernel
theorem dX11_unit_36 : decode cX11_unit 36 = .ok (.iconst 0, 1) := by decide +kernel
theorem dX11_unit_37 : decode cX11_unit 37 = .ok (.ireturn, 1) := by decide +kernel
theorem dX11_unit_38 : decode cX11_unit 38 = .ok (.aload_n 0, 1) := by decide +kernel
theorem dX11_unit_39 : decode cX11_unit 39 = .ok (.getfield 19, 3) := by decide +kernel
theorem dX11_unit_42 : decode cX11_unit 42 = .ok (.iload_n 1, 1) := by decide +kernel
theorem dX11_unit_43 : decode cX11_unit 43 = .ok (.new 99, 3) := by decide +kernel
theorem dX11_unit_46 : decode cX11_unit 46 = .ok (.dup, 1) := by decide +kernel
theorem dX11_unit_47 : decode cX11_unit 47 = .ok (.aload_n 0, 1) := by decide +kernel
theorem dX11_unit_48 : decode cX11_unit 48 = .ok (.getfield 19, 3) := by decide +kernel
theorem dX11_unit_51 : decode cX11_unit 51 = .ok (.iload_n 1, 1) := by decide +kernel
theorem dX11_unit_52 : decode cX11_unit 52 = .ok (.invokevirtual 123, 3) := by decide +kernel
theorem dX11_unit_55 : decode cX11_unit 55 = .ok (.getfield 127, 3) := by decide +kernel
theorem dX11_unit_58 : decode cX11_unit 58 = .ok (.iload_n 2, 1) := by decide +kernel
theorem dX11_unit_59 : decode cX11_unit 59 = .ok (.iload_n 3, 1) := by decide +kernel
theorem dX11_unit_60 : decode cX11_unit 60 = .ok (.iload 4, 2) := by decide +kernel
theorem dX11_unit_62 : decode cX11_unit 62 = .ok (.invokespecial 130, 3) := by decide +kernel
theorem dX11_unit_65 : decode cX11_unit 65 = .ok (.invokevirtual 133, 3) := by decide +kernel
theorem dX11_unit_68 : decode cX11_unit 68 = .ok (.iconst 1, 1) := by decide +kernel
theorem dX11_unit_69 : decode cX11_unit 69 = .ok (.ireturn, 1) := by decide +kernel
theorem dX11_keep_0 : decode cX11_keep 0 = .ok (.aload_n 0, 1) := by decide +kernel
theorem dX11_keep_1 : decode cX11_keep 1 = .ok (.getfield 19, 3) := by decide +kernel
theorem dX11_keep_4 : decode cX11_keep 4 = .ok (.iload_n 1, 1) := by decide +kernel
theorem dX11_keep_5 : decode cX11_keep 5 = .ok (.iload_n 2, 1) := by decide +kernel
theorem dX11_keep_6 : decode cX11_keep 6 = .ok (.invokevirtual 136, 3) := by decide +kernel
theorem dX11_keep_9 : decode cX11_keep 9 = .ok (.ireturn, 1) := by decide +kernel
theorem dX11_check_0 : decode cX11_check 0 = .ok (.aload_n 0, 1) := by decide +kernel
theorem dX11_check_1 : decode cX11_check 1 = .ok (.getfield 44, 3) := by decide +kernel
theorem dX11_check_4 : decode cX11_check 4 = .ok (.invokevirtual 140, 3) := by decide +kernel
theorem dX11_check_7 : decode cX11_check 7 = .ok (.aload_n 0, 1) := by decide +kernel
theorem dX11_check_8 : decode cX11_check 8 = .ok (.getfield 51, 3) := by decide +kernel
theorem dX11_check_11 : decode cX11_check 11 = .ok (.invokevirtual 143, 3) := by decide +kernel
theorem dX11_check_14 : decode cX11_check 14 = .ok (.aload_n 0, 1) := by decide +kernel
theorem dX11_check_15 : decode cX11_check 15 = .ok (.getfield 58, 3) := by decide +kernel
theorem dX11_check_18 : decode cX11_check 18 = .ok (.invokevirtual 144, 3) := by decide +kernel
theorem dX11_check_21 : decode cX11_check 21 = .ok (.aload_n 0, 1) := by decide +kernel
theorem dX11_check_22 : decode cX11_check 22 = .ok (.getfield 67, 3) := by decide +kernel
theorem dX11_check_25 : decode cX11_check 25 = .ok (.invokevirtual 145, 3) := by decide +kernel
theorem dX11_check_28 : decode cX11_check 28 = .ok (.ireturn, 1) := by decide +kernel
theorem dX11_finding_0 : decode cX11_finding 0 = .ok (.aload_n 0, 1) := by decide +kernel
theorem dX11_finding_1 : decode cX11_finding 1 = .ok (.getfield 67, 3) := by decide +kernel
theorem dX11_finding_4 : decode cX11_finding 4 = .ok (.iload_n 1, 1) := by decide +kernel
theorem dX11_finding_5 : decode cX11_finding 5 = .ok (.iload_n 2, 1) := by decide +kernel
theorem dX11_finding_6 : decode cX11_finding 6 = .ok (.invokevirtual 149, 3) := by decide +kernel
theorem dX11_finding_9 : decode cX11_finding 9 = .ok (.ireturn, 1) := by decide +kernel
theorem dX11_mend_0 : decode cX11_mend 0 = .ok (.aload_n 0, 1) := by decide +kernel
theorem dX11_mend_1 : decode cX11_mend 1 = .ok (.getfield 76, 3) := by decide +kernel
theorem dX11_mend_4 : decode cX11_mend 4 = .ok (.invokevirtual 153, 3) := by decide +kernel
theorem dX11_mend_7 : decode cX11_mend 7 = .ok (.aload_n 0, 1) := by decide +kernel
theorem dX11_mend_8 : decode cX11_mend 8 = .ok (.getfield 44, 3) := by decide +kernel
theorem dX11_mend_11 : decode cX11_mend 11 = .ok (.invokevirtual 140, 3) := by decide +kernel
theorem dX11_mend_14 : decode cX11_mend 14 = .ok (.aload_n 0, 1) := by decide +kernel
theorem dX11_mend_15 : decode cX11_mend 15 = .ok (.getfield 44, 3) := by decide +kernel
theorem dX11_mend_18 : decode cX11_mend 18 = .ok (.iload_n 1, 1) := by decide +kernel
theorem dX11_mend_19 : decode cX11_mend 19 = .ok (.invokevirtual 156, 3) := by decide +kernel
theorem dX11_mend_22 : decode cX11_mend 22 = .ok (.istore_n 2, 1) := by decide +kernel
theorem dX11_mend_23 : decode cX11_mend 23 = .ok (.iload_n 2, 1) := by decide +kernel
theorem dX11_mend_24 : decode cX11_mend 24 = .ok (.iconst (-1), 1) := by decide +kernel
theorem dX11_mend_25 : decode cX11_mend 25 = .ok (.if_icmp .ne 5, 3) := by decide +kernel
theorem dX11_mend_28 : decode cX11_mend 28 = .ok (.iconst (-1), 1) := by decide +kernel
theorem dX11_mend_29 : decode cX11_mend 29 = .ok (.ireturn, 1) := by decide +kernel
theorem dX11_mend_30 : decode cX11_mend 30 = .ok (.aload_n 0, 1) := by decide +kernel
theorem dX11_mend_31 : decode cX11_mend 31 = .ok (.getfield 19, 3) := by decide +kernel
theorem dX11_mend_34 : decode cX11_mend 34 = .ok (.iload_n 2, 1) := by decide +kernel
theorem dX11_mend_35 : decode cX11_mend 35 = .ok (.iload_n 1, 1) := by decide +kernel
theorem dX11_mend_36 : decode cX11_mend 36 = .ok (.invokevirtual 112, 3) := by decide +kernel
theorem dX11_mend_39 : decode cX11_mend 39 = .ok (.astore_n 3, 1) := by decide +kernel
theorem dX11_mend_40 : decode cX11_mend 40 = .ok (.aload_n 3, 1) := by decide +kernel
theorem dX11_mend_41 : decode cX11_mend 41 = .ok (.ifnonnull 5, 3) := by decide +kernel
theorem dX11_mend_44 : decode cX11_mend 44 = .ok (.iconst (-1), 1) := by decide +kernel
theorem dX11_mend_45 : decode cX11_mend 45 = .ok (.ireturn, 1) := by decide +kernel
theorem dX11_mend_46 : decode cX11_mend 46 = .ok (.aload_n 0, 1) := by decide +kernel
theorem dX11_mend_47 : decode cX11_mend 47 = .ok (.getfield 37, 3) := by decide +kernel
theorem dX11_mend_50 : decode cX11_mend 50 = .ok (.invokevirtual 159, 3) := by decide +kernel
theorem dX11_mend_53 : decode cX11_mend 53 = .ok (.aload_n 0, 1) := by decide +kernel
theorem dX11_mend_54 : decode cX11_mend 54 = .ok (.getfield 76, 3) := by decide +kernel
theorem dX11_mend_57 : decode cX11_mend 57 = .ok (.invokevirtual 160, 3) := by decide +kernel
theorem dX11_mend_60 : decode cX11_mend 60 = .ok (.aload_n 0, 1) := by decide +kernel
theorem dX11_mend_61 : decode cX11_mend 61 = .ok (.getfield 19, 3) := by decide +kernel
theorem dX11_mend_64 : decode cX11_mend 64 = .ok (.iload_n 1, 1) := by decide +kernel
theorem dX11_mend_65 : decode cX11_mend 65 = .ok (.aload_n 3, 1) := by decide +kernel
theorem dX11_mend_66 : decode cX11_mend 66 = .ok (.invokevirtual 104, 3) := by decide +kernel
theorem dX11_mend_69 : decode cX11_mend 69 = .ok (.aload_n 0, 1) := by decide +kernel
theorem dX11_mend_70 : decode cX11_mend 70 = .ok (.getfield 37, 3) := by decide +kernel
theorem dX11_mend_73 : decode cX11_mend 73 = .ok (.invokevirtual 159, 3) := by decide +kernel
theorem dX11_mend_76 : decode cX11_mend 76 = .ok (.aload_n 0, 1) := by decide +kernel
theorem dX11_mend_77 : decode cX11_mend 77 = .ok (.getfield 76, 3) := by decide +kernel
theorem dX11_mend_80 : decode cX11_mend 80 = .ok (.invokevirtual 163, 3) := by decide +kernel
theorem dX11_mend_83 : decode cX11_mend 83 = .ok (.ireturn, 1) := by decide +kernel
theorem dX11_stretch_0 : decode cX11_stretch 0 = .ok (.aload_n 0, 1) := by decide +kernel
theorem dX11_stretch_1 : decode cX11_stretch 1 = .ok (.getfield 76, 3) := by decide +kernel
theorem dX11_stretch_4 : decode cX11_stretch 4 = .ok (.invokevirtual 153, 3) := by decide +kernel
theorem dX11_stretch_7 : decode cX11_stretch 7 = .ok (.aload_n 0, 1) := by decide +kernel
theorem dX11_stretch_8 : decode cX11_stretch 8 = .ok (.iload_n 1, 1) := by decide +kernel
theorem dX11_stretch_9 : decode cX11_stretch 9 = .ok (.iload_n 2, 1) := by decide +kernel
theorem dX11_stretch_10 : decode cX11_stretch 10 = .ok (.invokevirtual 166, 3) := by decide +kernel
theorem dX11_stretch_13 : decode cX11_stretch 13 = .ok (.astore_n 3, 1) := by decide +kernel
theorem dX11_stretch_14 : decode cX11_stretch 14 = .ok (.aload_n 3, 1) := by decide +kernel
theorem dX11_stretch_15 : decode cX11_stretch 15 = .ok (.ifnonnull 5, 3) := by decide +kernel
theorem dX11_stretch_18 : decode cX11_stretch 18 = .ok (.iconst (-1), 1) := by decide +kernel
theorem dX11_stretch_19 : decode cX11_stretch 19 = .ok (.ireturn, 1) := by decide +kernel
theorem dX11_stretch_20 : decode cX11_stretch 20 = .ok (.aload_n 0, 1) := by decide +kernel
theorem dX11_stretch_21 : decode cX11_stretch 21 = .ok (.getfield 37, 3) := by decide +kernel
theorem dX11_stretch_24 : decode cX11_stretch 24 = .ok (.invokevirtual 159, 3) := by decide +kernel
theorem dX11_stretch_27 : decode cX11_stretch 27 = .ok (.aload_n 0, 1) := by decide +kernel
theorem dX11_stretch_28 : decode cX11_stretch 28 = .ok (.getfield 76, 3) := by decide +kernel
theorem dX11_stretch_31 : decode cX11_stretch 31 = .ok (.invokevirtual 160, 3) := by decide +kernel
theorem dX11_stretch_34 : decode cX11_stretch 34 = .ok (.aload_n 0, 1) := by decide +kernel
theorem dX11_stretch_35 : decode cX11_stretch 35 = .ok (.getfield 19, 3) := by decide +kernel
theorem dX11_stretch_38 : decode cX11_stretch 38 = .ok (.iload_n 1, 1) := by decide +kernel
theorem dX11_stretch_39 : decode cX11_stretch 39 = .ok (.new 99, 3) := by decide +kernel
theorem dX11_stretch_42 : decode cX11_stretch 42 = .ok (.dup, 1) := by decide +kernel
theorem dX11_stretch_43 : decode cX11_stretch 43 = .ok (.iconst 2, 1) := by decide +kernel
theorem dX11_stretch_44 : decode cX11_stretch 44 = .ok (.iconst 0, 1) := by decide +kernel
theorem dX11_stretch_45 : decode cX11_stretch 45 = .ok (.aload_n 3, 1) := by decide +kernel
theorem dX11_stretch_46 : decode cX11_stretch 46 = .ok (.invokespecial 101, 3) := by decide +kernel
theorem dX11_stretch_49 : decode cX11_stretch 49 = .ok (.invokevirtual 104, 3) := by decide +kernel
theorem dX11_stretch_52 : decode cX11_stretch 52 = .ok (.aload_n 0, 1) := by decide +kernel
theorem dX11_stretch_53 : decode cX11_stretch 53 = .ok (.getfield 37, 3) := by decide +kernel
theorem dX11_stretch_56 : decode cX11_stretch 56 = .ok (.invokevirtual 159, 3) := by decide +kernel
theorem dX11_stretch_59 : decode cX11_stretch 59 = .ok (.aload_n 0, 1) := by decide +kernel
theorem dX11_stretch_60 : decode cX11_stretch 60 = .ok (.getfield 76, 3) := by decide +kernel
theorem dX11_stretch_63 : decode cX11_stretch 63 = .ok (.invokevirtual 163, 3) := by decide +kernel
theorem dX11_stretch_66 : decode cX11_stretch 66 = .ok (.ireturn, 1) := by decide +kernel
theorem dX11_changed_0 : decode cX11_changed 0 = .ok (.aload_n 0, 1) := by decide +kernel
theorem dX11_changed_1 : decode cX11_changed 1 = .ok (.getfield 76, 3) := by decide +kernel
theorem dX11_changed_4 : decode cX11_changed 4 = .ok (.iload_n 1, 1) := by decide +kernel
theorem dX11_changed_5 : decode cX11_changed 5 = .ok (.iload_n 2, 1) := by decide +kernel
theorem dX11_changed_6 : decode cX11_changed 6 = .ok (.invokevirtual 170, 3) := by decide +kernel
theorem dX11_changed_9 : decode cX11_changed 9 = .ok (.ireturn, 1) := by decide +kernel
theorem dX11_undo_0 : decode cX11_undo 0 = .ok (.aload_n 0, 1) := by decide +kernel
theorem dX11_undo_1 : decode cX11_undo 1 = .ok (.getfield 76, 3) := by decide +kernel
theorem dX11_undo_4 : decode cX11_undo 4 = .ok (.invokevirtual 153, 3) := by decide +kernel
theorem dX11_undo_7 : decode cX11_undo 7 = .ok (.aload_n 0, 1) := by decide +kernel
theorem dX11_undo_8 : decode cX11_undo 8 = .ok (.getfield 19, 3) := by decide +kernel
theorem dX11_undo_11 : decode cX11_undo 11 = .ok (.getfield 171, 3) := by decide +kernel
theorem dX11_undo_14 : decode cX11_undo 14 = .ok (.ifCond .ne 5, 3) := by decide +kernel
theorem dX11_undo_17 : decode cX11_undo 17 = .ok (.iconst (-1), 1) := by decide +kernel
theorem dX11_undo_18 : decode cX11_undo 18 = .ok (.ireturn, 1) := by decide +kernel
theorem dX11_undo_19 : decode cX11_undo 19 = .ok (.aload_n 0, 1) := by decide +kernel
theorem dX11_undo_20 : decode cX11_undo 20 = .ok (.getfield 37, 3) := by decide +kernel
theorem dX11_undo_23 : decode cX11_undo 23 = .ok (.invokevirtual 159, 3) := by decide +kernel
theorem dX11_undo_26 : decode cX11_undo 26 = .ok (.aload_n 0, 1) := by decide +kernel
theorem dX11_undo_27 : decode cX11_undo 27 = .ok (.getfield 76, 3) := by decide +kernel
theorem dX11_undo_30 : decode cX11_undo 30 = .ok (.invokevirtual 160, 3) := by decide +kernel
theorem dX11_undo_33 : decode cX11_undo 33 = .ok (.aload_n 0, 1) := by decide +kernel
theorem dX11_undo_34 : decode cX11_undo 34 = .ok (.getfield 19, 3) := by decide +kernel
theorem dX11_undo_37 : decode cX11_undo 37 = .ok (.invokevirtual 174, 3) := by decide +kernel
theorem dX11_undo_40 : decode cX11_undo 40 = .ok (.aload_n 0, 1) := by decide +kernel
theorem dX11_undo_41 : decode cX11_undo 41 = .ok (.getfield 37, 3) := by decide +kernel
theorem dX11_undo_44 : decode cX11_undo 44 = .ok (.invokevirtual 159, 3) := by decide +kernel
theorem dX11_undo_47 : decode cX11_undo 47 = .ok (.aload_n 0, 1) := by decide +kernel
theorem dX11_undo_48 : decode cX11_undo 48 = .ok (.getfield 76, 3) := by decide +kernel
theorem dX11_undo_51 : decode cX11_undo 51 = .ok (.invokevirtual 163, 3) := by decide +kernel
theorem dX11_undo_54 : decode cX11_undo 54 = .ok (.ireturn, 1) := by decide +kernel
theorem dX11_cell_0 : decode cX11_cell 0 = .ok (.iload_n 1, 1) := by decide +kernel
theorem dX11_cell_1 : decode cX11_cell 1 = .ok (.invokestatic 88, 3) := by decide +kernel
theorem dX11_cell_4 : decode cX11_cell 4 = .ok (.ifCond .eq 13, 3) := by decide +kernel
theorem dX11_cell_7 : decode cX11_cell 7 = .ok (.iload_n 2, 1) := by decide +kernel
theorem dX11_cell_8 : decode cX11_cell 8 = .ok (.ifCond .lt 9, 3) := by decide +kernel
theorem dX11_cell_11 : decode cX11_cell 11 = .ok (.iload_n 2, 1) := by decide +kernel
theorem dX11_cell_12 : decode cX11_cell 12 = .ok (.bipush 10, 2) := by decide +kernel
theorem dX11_cell_14 : decode cX11_cell 14 = .ok (.if_icmp .le 13, 3) := by decide +kernel
theorem dX11_cell_17 : decode cX11_cell 17 = .ok (.new 177, 3) := by decide +kernel
theorem dX11_cell_20 : decode cX11_cell 20 = .ok (.dup, 1) := by decide +kernel
theorem dX11_cell_21 : decode cX11_cell 21 = .ok (.ldc 179, 2) := by decide +kernel
theorem dX11_cell_23 : decode cX11_cell 23 = .ok (.invokespecial 181, 3) := by decide +kernel
theorem dX11_cell_26 : decode cX11_cell 26 = .ok (.athrow, 1) := by decide +kernel
theorem dX11_cell_27 : decode cX11_cell 27 = .ok (.iload_n 2, 1) := by decide +kernel
theorem dX11_cell_28 : decode cX11_cell 28 = .ok (.tableswitch 188 0 9 #[56, 65, 81, 97, 113, 113, 113, 132, 156, 172], 56) := by decide +kernel
theorem dX11_cell_84 : decode cX11_cell 84 = .ok (.aload_n 0, 1) := by decide +kernel
theorem dX11_cell_85 : decode cX11_cell 85 = .ok (.getfield 19, 3) := by decide +kernel
theorem dX11_cell_88 : decode cX11_cell 88 = .ok (.iload_n 1, 1) := by decide +kernel
theorem dX11_cell_89 : decode cX11_cell 89 = .ok (.invokevirtual 116, 3) := by decide +kernel
theorem dX11_cell_92 : decode cX11_cell 92 = .ok (.ireturn, 1) := by decide +kernel
theorem dX11_cell_93 : decode cX11_cell 93 = .ok (.aload_n 0, 1) := by decide +kernel
theorem dX11_cell_94 : decode cX11_cell 94 = .ok (.getfield 37, 3) := by decide +kernel
theorem dX11_cell_97 : decode cX11_cell 97 = .ok (.invokevirtual 159, 3) := by decide +kernel
theorem dX11_cell_100 : decode cX11_cell 100 = .ok (.aload_n 0, 1) := by decide +kernel
theorem dX11_cell_101 : decode cX11_cell 101 = .ok (.getfield 37, 3) := by decide +kernel
theorem dX11_cell_104 : decode cX11_cell 104 = .ok (.iload_n 1, 1) := by decide +kernel
theorem dX11_cell_105 : decode cX11_cell 105 = .ok (.invokevirtual 184, 3) := by decide +kernel
theorem dX11_cell_108 : decode cX11_cell 108 = .ok (.ireturn, 1) := by decide +kernel
theorem dX11_cell_109 : decode cX11_cell 109 = .ok (.aload_n 0, 1) := by decide +kernel
theorem dX11_cell_110 : decode cX11_cell 110 = .ok (.getfield 37, 3) := by decide +kernel
theorem dX11_cell_113 : decode cX11_cell 113 = .ok (.invokevirtual 159, 3) := by decide +kernel
theorem dX11_cell_116 : decode cX11_cell 116 = .ok (.aload_n 0, 1) := by decide +kernel
theorem dX11_cell_117 : decode cX11_cell 117 = .ok (.getfield 37, 3) := by decide +kernel
theorem dX11_cell_120 : decode cX11_cell 120 = .ok (.iload_n 1, 1) := by decide +kernel
theorem dX11_cell_121 : decode cX11_cell 121 = .ok (.invokevirtual 187, 3) := by decide +kernel
theorem dX11_cell_124 : decode cX11_cell 124 = .ok (.ireturn, 1) := by decide +kernel
theorem dX11_cell_125 : decode cX11_cell 125 = .ok (.aload_n 0, 1) := by decide +kernel
theorem dX11_cell_126 : decode cX11_cell 126 = .ok (.getfield 44, 3) := by decide +kernel
theorem dX11_cell_129 : decode cX11_cell 129 = .ok (.invokevirtual 140, 3) := by decide +kernel
theorem dX11_cell_132 : decode cX11_cell 132 = .ok (.aload_n 0, 1) := by decide +kernel
theorem dX11_cell_133 : decode cX11_cell 133 = .ok (.getfield 44, 3) := by decide +kernel
theorem dX11_cell_136 : decode cX11_cell 136 = .ok (.iload_n 1, 1) := by decide +kernel
theorem dX11_cell_137 : decode cX11_cell 137 = .ok (.invokevirtual 190, 3) := by decide +kernel
theorem dX11_cell_140 : decode cX11_cell 140 = .ok (.ireturn, 1) := by decide +kernel
theorem dX11_cell_141 : decode cX11_cell 141 = .ok (.aload_n 0, 1) := by decide +kernel
theorem dX11_cell_142 : decode cX11_cell 142 = .ok (.getfield 51, 3) := by decide +kernel
theorem dX11_cell_145 : decode cX11_cell 145 = .ok (.invokevirtual 143, 3) := by decide +kernel
theorem dX11_cell_148 : decode cX11_cell 148 = .ok (.aload_n 0, 1) := by decide +kernel
theorem dX11_cell_149 : decode cX11_cell 149 = .ok (.getfield 51, 3) := by decide +kernel
theorem dX11_cell_152 : decode cX11_cell 152 = .ok (.iload_n 1, 1) := by decide +kernel
theorem dX11_cell_153 : decode cX11_cell 153 = .ok (.iload_n 2, 1) := by decide +kernel
theorem dX11_cell_154 : decode cX11_cell 154 = .ok (.iconst 4, 1) := by decide +kernel
theorem dX11_cell_155 : decode cX11_cell 155 = .ok (.isub, 1) := by decide +kernel
theorem dX11_cell_156 : decode cX11_cell 156 = .ok (.invokevirtual 193, 3) := by decide +kernel
theorem dX11_cell_159 : decode cX11_cell 159 = .ok (.ireturn, 1) := by decide +kernel
theorem dX11_cell_160 : decode cX11_cell 160 = .ok (.aload_n 0, 1) := by decide +kernel
theorem dX11_cell_161 : decode cX11_cell 161 = .ok (.getfield 58, 3) := by decide +kernel
theorem dX11_cell_164 : decode cX11_cell 164 = .ok (.invokevirtual 144, 3) := by decide +kernel
theorem dX11_cell_167 : decode cX11_cell 167 = .ok (.aload_n 0, 1) := by decide +kernel
theorem dX11_cell_168 : decode cX11_cell 168 = .ok (.getfield 58, 3) := by decide +kernel
theorem dX11_cell_171 : decode cX11_cell 171 = .ok (.iload_n 1, 1) := by decide +kernel
theorem dX11_cell_172 : decode cX11_cell 172 = .ok (.invokevirtual 196, 3) := by decide +kernel
theorem dX11_cell_175 : decode cX11_cell 175 = .ok (.ifCond .eq 7, 3) := by decide +kernel
theorem dX11_cell_178 : decode cX11_cell 178 = .ok (.iconst 1, 1) := by decide +kernel
theorem dX11_cell_179 : decode cX11_cell 179 = .ok (.goto 4, 3) := by decide +kernel
theorem dX11_cell_182 : decode cX11_cell 182 = .ok (.iconst 0, 1) := by decide +kernel
theorem dX11_cell_183 : decode cX11_cell 183 = .ok (.ireturn, 1) := by decide +kernel
theorem dX11_cell_184 : decode cX11_cell 184 = .ok (.aload_n 0, 1) := by decide +kernel
theorem dX11_cell_185 : decode cX11_cell 185 = .ok (.getfield 28, 3) := by decide +kernel
theorem dX11_cell_188 : decode cX11_cell 188 = .ok (.invokevirtual 199, 3) := by decide +kernel
theorem dX11_cell_191 : decode cX11_cell 191 = .ok (.aload_n 0, 1) := by decide +kernel
theorem dX11_cell_192 : decode cX11_cell 192 = .ok (.getfield 28, 3) := by decide +kernel
theorem dX11_cell_195 : decode cX11_cell 195 = .ok (.iload_n 1, 1) := by decide +kernel
theorem dX11_cell_196 : decode cX11_cell 196 = .ok (.invokevirtual 200, 3) := by decide +kernel
theorem dX11_cell_199 : decode cX11_cell 199 = .ok (.ireturn, 1) := by decide +kernel
theorem dX11_cell_200 : decode cX11_cell 200 = .ok (.aload_n 0, 1) := by decide +kernel
theorem dX11_cell_201 : decode cX11_cell 201 = .ok (.getfield 28, 3) := by decide +kernel
theorem dX11_cell_204 : decode cX11_cell 204 = .ok (.invokevirtual 199, 3) := by decide +kernel
theorem dX11_cell_207 : decode cX11_cell 207 = .ok (.aload_n 0, 1) := by decide +kernel
theorem dX11_cell_208 : decode cX11_cell 208 = .ok (.getfield 28, 3) := by decide +kernel
theorem dX11_cell_211 : decode cX11_cell 211 = .ok (.iload_n 1, 1) := by decide +kernel
theorem dX11_cell_212 : decode cX11_cell 212 = .ok (.invokevirtual 203, 3) := by decide +kernel
theorem dX11_cell_215 : decode cX11_cell 215 = .ok (.ireturn, 1) := by decide +kernel
theorem dX11_cell_216 : decode cX11_cell 216 = .ok (.aload_n 0, 1) := by decide +kernel
theorem dX11_cell_217 : decode cX11_cell 217 = .ok (.getfield 19, 3) := by decide +kernel
theorem dX11_cell_220 : decode cX11_cell 220 = .ok (.iload_n 1, 1) := by decide +kernel
theorem dX11_cell_221 : decode cX11_cell 221 = .ok (.invokevirtual 206, 3) := by decide +kernel
theorem dX11_cell_224 : decode cX11_cell 224 = .ok (.ifCond .eq 7, 3) := by decide +kernel
theorem dX11_cell_227 : decode cX11_cell 227 = .ok (.iconst 1, 1) := by decide +kernel
theorem dX11_cell_228 : decode cX11_cell 228 = .ok (.goto 4, 3) := by decide +kernel
theorem dX11_cell_231 : decode cX11_cell 231 = .ok (.iconst 0, 1) := by decide +kernel
theorem dX11_cell_232 : decode cX11_cell 232 = .ok (.ireturn, 1) := by decide +kernel
theorem dX11_ways_0 : decode cX11_ways 0 = .ok (.iload_n 1, 1) := by decide +kernel
theorem dX11_ways_1 : decode cX11_ways 1 = .ok (.invokestatic 88, 3) := by decide +kernel
theorem dX11_ways_4 : decode cX11_ways 4 = .ok (.ifCond .eq 10, 3) := by decide +kernel
theorem dX11_ways_7 : decode cX11_ways 7 = .ok (.iload_n 2, 1) := by decide +kernel
theorem dX11_ways_8 : decode cX11_ways 8 = .ok (.invokestatic 88, 3) := by decide +kernel
theorem dX11_ways_11 : decode cX11_ways 11 = .ok (.ifCond .ne 5, 3) := by decide +kernel
theorem dX11_ways_14 : decode cX11_ways 14 = .ok (.iconst (-1), 1) := by decide +kernel
theorem dX11_ways_15 : decode cX11_ways 15 = .ok (.ireturn, 1) := by decide +kernel
theorem dX11_ways_16 : decode cX11_ways 16 = .ok (.aload_n 0, 1) := by decide +kernel
theorem dX11_ways_17 : decode cX11_ways 17 = .ok (.getfield 58, 3) := by decide +kernel
theorem dX11_ways_20 : decode cX11_ways 20 = .ok (.invokevirtual 144, 3) := by decide +kernel
theorem dX11_ways_23 : decode cX11_ways 23 = .ok (.aload_n 0, 1) := by decide +kernel
theorem dX11_ways_24 : decode cX11_ways 24 = .ok (.getfield 58, 3) := by decide +kernel
theorem dX11_ways_27 : decode cX11_ways 27 = .ok (.iload_n 2, 1) := by decide +kernel
theorem dX11_ways_28 : decode cX11_ways 28 = .ok (.invokevirtual 196, 3) := by decide +kernel
theorem dX11_ways_31 : decode cX11_ways 31 = .ok (.ifCond .eq 15, 3) := by decide +kernel
theorem dX11_ways_34 : decode cX11_ways 34 = .ok (.aload_n 0, 1) := by decide +kernel
theorem dX11_ways_35 : decode cX11_ways 35 = .ok (.getfield 58, 3) := by decide +kernel
theorem dX11_ways_38 : decode cX11_ways 38 = .ok (.iload_n 1, 1) := by decide +kernel
theorem dX11_ways_39 : decode cX11_ways 39 = .ok (.iload_n 2, 1) := by decide +kernel
theorem dX11_ways_40 : decode cX11_ways 40 = .ok (.invokevirtual 209, 3) := by decide +kernel
theorem dX11_ways_43 : decode cX11_ways 43 = .ok (.goto 4, 3) := by decide +kernel
theorem dX11_ways_46 : decode cX11_ways 46 = .ok (.iconst (-1), 1) := by decide +kernel
theorem dX11_ways_47 : decode cX11_ways 47 = .ok (.ireturn, 1) := by decide +kernel
theorem dX11_count_0 : decode cX11_count 0 = .ok (.iload_n 1, 1) := by decide +kernel
theorem dX11_count_1 : decode cX11_count 1 = .ok (.tableswitch 103 0 5 #[39, 48, 57, 72, 87, 95], 39) := by decide +kernel
theorem dX11_count_40 : decode cX11_count 40 = .ok (.aload_n 0, 1) := by decide +kernel
theorem dX11_count_41 : decode cX11_count 41 = .ok (.getfield 19, 3) := by decide +kernel
theorem dX11_count_44 : decode cX11_count 44 = .ok (.iconst 1, 1) := by decide +kernel
theorem dX11_count_45 : decode cX11_count 45 = .ok (.invokevirtual 212, 3) := by decide +kernel
theorem dX11_count_48 : decode cX11_count 48 = .ok (.ireturn, 1) := by decide +kernel
theorem dX11_count_49 : decode cX11_count 49 = .ok (.aload_n 0, 1) := by decide +kernel
theorem dX11_count_50 : decode cX11_count 50 = .ok (.getfield 19, 3) := by decide +kernel
theorem dX11_count_53 : decode cX11_count 53 = .ok (.iconst 2, 1) := by decide +kernel
theorem dX11_count_54 : decode cX11_count 54 = .ok (.invokevirtual 212, 3) := by decide +kernel
theorem dX11_count_57 : decode cX11_count 57 = .ok (.ireturn, 1) := by decide +kernel
theorem dX11_count_58 : decode cX11_count 58 = .ok (.aload_n 0, 1) := by decide +kernel
theorem dX11_count_59 : decode cX11_count 59 = .ok (.getfield 44, 3) := by decide +kernel
theorem dX11_count_62 : decode cX11_count 62 = .ok (.invokevirtual 140, 3) := by decide +kernel
theorem dX11_count_65 : decode cX11_count 65 = .ok (.aload_n 0, 1) := by decide +kernel
theorem dX11_count_66 : decode cX11_count 66 = .ok (.getfield 44, 3) := by decide +kernel
theorem dX11_count_69 : decode cX11_count 69 = .ok (.getfield 215, 3) := by decide +kernel
theorem dX11_count_72 : decode cX11_count 72 = .ok (.ireturn, 1) := by decide +kernel
theorem dX11_count_73 : decode cX11_count 73 = .ok (.aload_n 0, 1) := by decide +kernel
theorem dX11_count_74 : decode cX11_count 74 = .ok (.getfield 37, 3) := by decide +kernel
theorem dX11_count_77 : decode cX11_count 77 = .ok (.invokevirtual 159, 3) := by decide +kernel
theorem dX11_count_80 : decode cX11_count 80 = .ok (.aload_n 0, 1) := by decide +kernel
theorem dX11_count_81 : decode cX11_count 81 = .ok (.getfield 37, 3) := by decide +kernel
theorem dX11_count_84 : decode cX11_count 84 = .ok (.invokevirtual 218, 3) := by decide +kernel
theorem dX11_count_87 : decode cX11_count 87 = .ok (.ireturn, 1) := by decide +kernel
theorem dX11_count_88 : decode cX11_count 88 = .ok (.aload_n 0, 1) := by decide +kernel
theorem dX11_count_89 : decode cX11_count 89 = .ok (.getfield 12, 3) := by decide +kernel
theorem dX11_count_92 : decode cX11_count 92 = .ok (.getfield 84, 3) := by decide +kernel
theorem dX11_count_95 : decode cX11_count 95 = .ok (.ireturn, 1) := by decide +kernel
theorem dX11_count_96 : decode cX11_count 96 = .ok (.aload_n 0, 1) := by decide +kernel
theorem dX11_count_97 : decode cX11_count 97 = .ok (.getfield 19, 3) := by decide +kernel
theorem dX11_count_100 : decode cX11_count 100 = .ok (.getfield 171, 3) := by decide +kernel
theorem dX11_count_103 : decode cX11_count 103 = .ok (.ireturn, 1) := by decide +kernel
theorem dX11_count_104 : decode cX11_count 104 = .ok (.iconst (-1), 1) := by decide +kernel
theorem dX11_count_105 : decode cX11_count 105 = .ok (.ireturn, 1) := by decide +kernel
theorem dX11_stretchedFormula_0 : decode cX11_stretchedFormula 0 = .ok (.aload_n 0, 1) := by decide +kernel
theorem dX11_stretchedFormula_1 : decode cX11_stretchedFormula 1 = .ok (.getfield 19, 3) := by decide +kernel
theorem dX11_stretchedFormula_4 : decode cX11_stretchedFormula 4 = .ok (.iload_n 1, 1) := by decide +kernel
theorem dX11_stretchedFormula_5 : decode cX11_stretchedFormula 5 = .ok (.invokevirtual 221, 3) := by decide +kernel
theorem dX11_stretchedFormula_8 : decode cX11_stretchedFormula 8 = .ok (.astore_n 3, 1) := by decide +kernel
theorem dX11_stretchedFormula_9 : decode cX11_stretchedFormula 9 = .ok (.aload_n 3, 1) := by decide +kernel
theorem dX11_stretchedFormula_10 : decode cX11_stretchedFormula 10 = .ok (.ifnonnull 5, 3) := by decide +kernel
theorem dX11_stretchedFormula_13 : decode cX11_stretchedFormula 13 = .ok (.aconst_null, 1) := by decide +kernel
theorem dX11_stretchedFormula_14 : decode cX11_stretchedFormula 14 = .ok (.areturn, 1) := by decide +kernel
theorem dX11_stretchedFormula_15 : decode cX11_stretchedFormula 15 = .ok (.aload_n 0, 1) := by decide +kernel
theorem dX11_stretchedFormula_16 : decode cX11_stretchedFormula 16 = .ok (.getfield 44, 3) := by decide +kernel
theorem dX11_stretchedFormula_19 : decode cX11_stretchedFormula 19 = .ok (.invokevirtual 140, 3) := by decide +kernel
theorem dX11_stretchedFormula_22 : decode cX11_stretchedFormula 22 = .ok (.aload_n 3, 1) := by decide +kernel
theorem dX11_stretchedFormula_23 : decode cX11_stretchedFormula 23 = .ok (.iload_n 2, 1) := by decide +kernel
theorem dX11_stretchedFormula_24 : decode cX11_stretchedFormula 24 = .ok (.invokevirtual 224, 3) := by decide +kernel
theorem dX11_stretchedFormula_27 : decode cX11_stretchedFormula 27 = .ok (.istore 4, 2) := by decide +kernel
theorem dX11_stretchedFormula_29 : decode cX11_stretchedFormula 29 = .ok (.aload_n 0, 1) := by decide +kernel
theorem dX11_stretchedFormula_30 : decode cX11_stretchedFormula 30 = .ok (.getfield 67, 3) := by decide +kernel
theorem dX11_stretchedFormula_33 : decode cX11_stretchedFormula 33 = .ok (.iload_n 1, 1) := by decide +kernel
theorem dX11_stretchedFormula_34 : decode cX11_stretchedFormula 34 = .ok (.aload_n 3, 1) := by decide +kernel
theorem dX11_stretchedFormula_35 : decode cX11_stretchedFormula 35 = .ok (.iload 4, 2) := by decide +kernel
theorem dX11_stretchedFormula_37 : decode cX11_stretchedFormula 37 = .ok (.invokevirtual 229, 3) := by decide +kernel
theorem dX11_stretchedFormula_40 : decode cX11_stretchedFormula 40 = .ok (.iconst (-1), 1) := by decide +kernel
theorem dX11_stretchedFormula_41 : decode cX11_stretchedFormula 41 = .ok (.if_icmp .eq 12, 3) := by decide +kernel
theorem dX11_stretchedFormula_44 : decode cX11_stretchedFormula 44 = .ok (.aload_n 3, 1) := by decide +kernel
theorem dX11_stretchedFormula_45 : decode cX11_stretchedFormula 45 = .ok (.iload 4, 2) := by decide +kernel
theorem dX11_stretchedFormula_47 : decode cX11_stretchedFormula 47 = .ok (.iconst 1, 1) := by decide +kernel
theorem dX11_stretchedFormula_48 : decode cX11_stretchedFormula 48 = .ok (.iconst 0, 1) := by decide +kernel
theorem dX11_stretchedFormula_49 : decode cX11_stretchedFormula 49 = .ok (.invokevirtual 233, 3) := by decide +kernel
theorem dX11_stretchedFormula_52 : decode cX11_stretchedFormula 52 = .ok (.areturn, 1) := by decide +kernel
theorem dX11_stretchedFormula_53 : decode cX11_stretchedFormula 53 = .ok (.aload_n 0, 1) := by decide +kernel
theorem dX11_stretchedFormula_54 : decode cX11_stretchedFormula 54 = .ok (.getfield 67, 3) := by decide +kernel
theorem dX11_stretchedFormula_57 : decode cX11_stretchedFormula 57 = .ok (.iload_n 1, 1) := by decide +kernel
theorem dX11_stretchedFormula_58 : decode cX11_stretchedFormula 58 = .ok (.aload_n 3, 1) := by decide +kernel
theorem dX11_stretchedFormula_59 : decode cX11_stretchedFormula 59 = .ok (.iload 4, 2) := by decide +kernel
theorem dX11_stretchedFormula_61 : decode cX11_stretchedFormula 61 = .ok (.invokevirtual 237, 3) := by decide +kernel
theorem dX11_stretchedFormula_64 : decode cX11_stretchedFormula 64 = .ok (.iconst (-1), 1) := by decide +kernel
theorem dX11_stretchedFormula_65 : decode cX11_stretchedFormula 65 = .ok (.if_icmp .eq 12, 3) := by decide +kernel
theorem dX11_stretchedFormula_68 : decode cX11_stretchedFormula 68 = .ok (.aload_n 3, 1) := by decide +kernel
theorem dX11_stretchedFormula_69 : decode cX11_stretchedFormula 69 = .ok (.iload 4, 2) := by decide +kernel
theorem dX11_stretchedFormula_71 : decode cX11_stretchedFormula 71 = .ok (.iconst 0, 1) := by decide +kernel
theorem dX11_stretchedFormula_72 : decode cX11_stretchedFormula 72 = .ok (.iconst 1, 1) := by decide +kernel
theorem dX11_stretchedFormula_73 : decode cX11_stretchedFormula 73 = .ok (.invokevirtual 233, 3) := by decide +kernel
theorem dX11_stretchedFormula_76 : decode cX11_stretchedFormula 76 = .ok (.areturn, 1) := by decide +kernel
theorem dX11_stretchedFormula_77 : decode cX11_stretchedFormula 77 = .ok (.aconst_null, 1) := by decide +kernel
theorem dX11_stretchedFormula_78 : decode cX11_stretchedFormula 78 = .ok (.areturn, 1) := by decide +kernel
theorem dX11_onSheet_0 : decode cX11_onSheet 0 = .ok (.iload_n 0, 1) := by decide +kernel
theorem dX11_onSheet_1 : decode cX11_onSheet 1 = .ok (.ifCond .lt 14, 3) := by decide +kernel
theorem dX11_onSheet_4 : decode cX11_onSheet 4 = .ok (.iload_n 0, 1) := by decide +kernel
theorem dX11_onSheet_5 : decode cX11_onSheet 5 = .ok (.sipush 288, 3) := by decide +kernel
theorem dX11_onSheet_8 : decode cX11_onSheet 8 = .ok (.if_icmp .ge 7, 3) := by decide +kernel
theorem dX11_onSheet_11 : decode cX11_onSheet 11 = .ok (.iconst 1, 1) := by decide +kernel
theorem dX11_onSheet_12 : decode cX11_onSheet 12 = .ok (.goto 4, 3) := by decide +kernel
theorem dX11_onSheet_15 : decode cX11_onSheet 15 = .ok (.iconst 0, 1) := by decide +kernel
theorem dX11_onSheet_16 : decode cX11_onSheet 16 = .ok (.ireturn, 1) := by decide +kernel
