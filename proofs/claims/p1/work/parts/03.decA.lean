theorem dX0_init_0 : decode cX0_init 0 = .ok (.aload_n 0, 1) := by decide +kernel
theorem dX0_init_1 : decode cX0_init 1 = .ok (.invokespecial 3, 3) := by decide +kernel
theorem dX0_init_4 : decode cX0_init 4 = .ok (.aload_n 0, 1) := by decide +kernel
theorem dX0_init_5 : decode cX0_init 5 = .ok (.iload_n 1, 1) := by decide +kernel
theorem dX0_init_6 : decode cX0_init 6 = .ok (.putfield 9, 3) := by decide +kernel
theorem dX0_init_9 : decode cX0_init 9 = .ok (.aload_n 0, 1) := by decide +kernel
theorem dX0_init_10 : decode cX0_init 10 = .ok (.iload_n 2, 1) := by decide +kernel
theorem dX0_init_11 : decode cX0_init 11 = .ok (.putfield 15, 3) := by decide +kernel
theorem dX0_init_14 : decode cX0_init 14 = .ok (.aload_n 0, 1) := by decide +kernel
theorem dX0_init_15 : decode cX0_init 15 = .ok (.aload_n 3, 1) := by decide +kernel
theorem dX0_init_16 : decode cX0_init 16 = .ok (.putfield 18, 3) := by decide +kernel
theorem dX0_init_19 : decode cX0_init 19 = .ok (.aload_n 0, 1) := by decide +kernel
theorem dX0_init_20 : decode cX0_init 20 = .ok (.iconst 0, 1) := by decide +kernel
theorem dX0_init_21 : decode cX0_init 21 = .ok (.putfield 22, 3) := by decide +kernel
theorem dX0_init_24 : decode cX0_init 24 = .ok (.aload_n 0, 1) := by decide +kernel
theorem dX0_init_25 : decode cX0_init 25 = .ok (.iconst 0, 1) := by decide +kernel
theorem dX0_init_26 : decode cX0_init 26 = .ok (.putfield 25, 3) := by decide +kernel
theorem dX0_init_29 : decode cX0_init 29 = .ok (.aload_n 0, 1) := by decide +kernel
theorem dX0_init_30 : decode cX0_init 30 = .ok (.iconst 0, 1) := by decide +kernel
theorem dX0_init_31 : decode cX0_init 31 = .ok (.putfield 28, 3) := by decide +kernel
theorem dX0_init_34 : decode cX0_init 34 = .ok (.return_, 1) := by decide +kernel
theorem dX0_fits_0 : decode cX0_fits 0 = .ok (.aload_n 0, 1) := by decide +kernel
theorem dX0_fits_1 : decode cX0_fits 1 = .ok (.getfield 18, 3) := by decide +kernel
theorem dX0_fits_4 : decode cX0_fits 4 = .ok (.ifnull 14, 3) := by decide +kernel
theorem dX0_fits_7 : decode cX0_fits 7 = .ok (.aload_n 0, 1) := by decide +kernel
theorem dX0_fits_8 : decode cX0_fits 8 = .ok (.getfield 18, 3) := by decide +kernel
theorem dX0_fits_11 : decode cX0_fits 11 = .ok (.iload_n 1, 1) := by decide +kernel
theorem dX0_fits_12 : decode cX0_fits 12 = .ok (.invokevirtual 31, 3) := by decide +kernel
theorem dX0_fits_15 : decode cX0_fits 15 = .ok (.ifCond .eq 7, 3) := by decide +kernel
theorem dX0_fits_18 : decode cX0_fits 18 = .ok (.iconst 1, 1) := by decide +kernel
theorem dX0_fits_19 : decode cX0_fits 19 = .ok (.goto 4, 3) := by decide +kernel
theorem dX0_fits_22 : decode cX0_fits 22 = .ok (.iconst 0, 1) := by decide +kernel
theorem dX0_fits_23 : decode cX0_fits 23 = .ok (.ireturn, 1) := by decide +kernel
theorem dX0_withoutUnit_0 : decode cX0_withoutUnit 0 = .ok (.aload_n 0, 1) := by decide +kernel
theorem dX0_withoutUnit_1 : decode cX0_withoutUnit 1 = .ok (.getfield 9, 3) := by decide +kernel
theorem dX0_withoutUnit_4 : decode cX0_withoutUnit 4 = .ok (.iconst 1, 1) := by decide +kernel
theorem dX0_withoutUnit_5 : decode cX0_withoutUnit 5 = .ok (.if_icmp .ne 19, 3) := by decide +kernel
theorem dX0_withoutUnit_8 : decode cX0_withoutUnit 8 = .ok (.new 10, 3) := by decide +kernel
theorem dX0_withoutUnit_11 : decode cX0_withoutUnit 11 = .ok (.dup, 1) := by decide +kernel
theorem dX0_withoutUnit_12 : decode cX0_withoutUnit 12 = .ok (.iconst 1, 1) := by decide +kernel
theorem dX0_withoutUnit_13 : decode cX0_withoutUnit 13 = .ok (.aload_n 0, 1) := by decide +kernel
theorem dX0_withoutUnit_14 : decode cX0_withoutUnit 14 = .ok (.getfield 15, 3) := by decide +kernel
theorem dX0_withoutUnit_17 : decode cX0_withoutUnit 17 = .ok (.aconst_null, 1) := by decide +kernel
theorem dX0_withoutUnit_18 : decode cX0_withoutUnit 18 = .ok (.invokespecial 37, 3) := by decide +kernel
theorem dX0_withoutUnit_21 : decode cX0_withoutUnit 21 = .ok (.goto 4, 3) := by decide +kernel
theorem dX0_withoutUnit_24 : decode cX0_withoutUnit 24 = .ok (.aload_n 0, 1) := by decide +kernel
theorem dX0_withoutUnit_25 : decode cX0_withoutUnit 25 = .ok (.areturn, 1) := by decide +kernel
theorem dX1_init_0 : decode cX1_init 0 = .ok (.aload_n 0, 1) := by decide +kernel
theorem dX1_init_1 : decode cX1_init 1 = .ok (.invokespecial 3, 3) := by decide +kernel
theorem dX1_init_4 : decode cX1_init 4 = .ok (.aload_n 0, 1) := by decide +kernel
theorem dX1_init_5 : decode cX1_init 5 = .ok (.aload_n 1, 1) := by decide +kernel
theorem dX1_init_6 : decode cX1_init 6 = .ok (.putfield 9, 3) := by decide +kernel
theorem dX1_init_9 : decode cX1_init 9 = .ok (.aload_n 0, 1) := by decide +kernel
theorem dX1_init_10 : decode cX1_init 10 = .ok (.sipush 288, 3) := by decide +kernel
theorem dX1_init_13 : decode cX1_init 13 = .ok (.newarray .int, 2) := by decide +kernel
theorem dX1_init_15 : decode cX1_init 15 = .ok (.putfield 15, 3) := by decide +kernel
theorem dX1_init_18 : decode cX1_init 18 = .ok (.aload_n 0, 1) := by decide +kernel
theorem dX1_init_19 : decode cX1_init 19 = .ok (.sipush 288, 3) := by decide +kernel
theorem dX1_init_22 : decode cX1_init 22 = .ok (.newarray .int, 2) := by decide +kernel
theorem dX1_init_24 : decode cX1_init 24 = .ok (.putfield 19, 3) := by decide +kernel
theorem dX1_init_27 : decode cX1_init 27 = .ok (.aload_n 0, 1) := by decide +kernel
theorem dX1_init_28 : decode cX1_init 28 = .ok (.sipush 1440, 3) := by decide +kernel
theorem dX1_init_31 : decode cX1_init 31 = .ok (.newarray .int, 2) := by decide +kernel
theorem dX1_init_33 : decode cX1_init 33 = .ok (.putfield 22, 3) := by decide +kernel
theorem dX1_init_36 : decode cX1_init 36 = .ok (.aload_n 0, 1) := by decide +kernel
theorem dX1_init_37 : decode cX1_init 37 = .ok (.iconst 0, 1) := by decide +kernel
theorem dX1_init_38 : decode cX1_init 38 = .ok (.putfield 25, 3) := by decide +kernel
theorem dX1_init_41 : decode cX1_init 41 = .ok (.return_, 1) := by decide +kernel
theorem dX1_forget_0 : decode cX1_forget 0 = .ok (.aload_n 0, 1) := by decide +kernel
theorem dX1_forget_1 : decode cX1_forget 1 = .ok (.iconst 0, 1) := by decide +kernel
theorem dX1_forget_2 : decode cX1_forget 2 = .ok (.putfield 25, 3) := by decide +kernel
theorem dX1_forget_5 : decode cX1_forget 5 = .ok (.return_, 1) := by decide +kernel
theorem dX1_tell_0 : decode cX1_tell 0 = .ok (.iload_n 1, 1) := by decide +kernel
theorem dX1_tell_1 : decode cX1_tell 1 = .ok (.ifCond .lt 27, 3) := by decide +kernel
theorem dX1_tell_4 : decode cX1_tell 4 = .ok (.iload_n 1, 1) := by decide +kernel
theorem dX1_tell_5 : decode cX1_tell 5 = .ok (.aload_n 0, 1) := by decide +kernel
theorem dX1_tell_6 : decode cX1_tell 6 = .ok (.getfield 25, 3) := by decide +kernel
theorem dX1_tell_9 : decode cX1_tell 9 = .ok (.if_icmp .ge 19, 3) := by decide +kernel
theorem dX1_tell_12 : decode cX1_tell 12 = .ok (.iload_n 1, 1) := by decide +kernel
theorem dX1_tell_13 : decode cX1_tell 13 = .ok (.sipush 288, 3) := by decide +kernel
theorem dX1_tell_16 : decode cX1_tell 16 = .ok (.if_icmp .ge 12, 3) := by decide +kernel
theorem dX1_tell_19 : decode cX1_tell 19 = .ok (.iload_n 2, 1) := by decide +kernel
theorem dX1_tell_20 : decode cX1_tell 20 = .ok (.ifCond .lt 8, 3) := by decide +kernel
theorem dX1_tell_23 : decode cX1_tell 23 = .ok (.iload_n 2, 1) := by decide +kernel
theorem dX1_tell_24 : decode cX1_tell 24 = .ok (.iconst 5, 1) := by decide +kernel
theorem dX1_tell_25 : decode cX1_tell 25 = .ok (.if_icmp .lt 5, 3) := by decide +kernel
theorem dX1_tell_28 : decode cX1_tell 28 = .ok (.iconst (-1), 1) := by decide +kernel
theorem dX1_tell_29 : decode cX1_tell 29 = .ok (.ireturn, 1) := by decide +kernel
theorem dX1_tell_30 : decode cX1_tell 30 = .ok (.aload_n 0, 1) := by decide +kernel
theorem dX1_tell_31 : decode cX1_tell 31 = .ok (.getfield 22, 3) := by decide +kernel
theorem dX1_tell_34 : decode cX1_tell 34 = .ok (.iload_n 1, 1) := by decide +kernel
theorem dX1_tell_35 : decode cX1_tell 35 = .ok (.iconst 5, 1) := by decide +kernel
theorem dX1_tell_36 : decode cX1_tell 36 = .ok (.imul, 1) := by decide +kernel
theorem dX1_tell_37 : decode cX1_tell 37 = .ok (.iload_n 2, 1) := by decide +kernel
theorem dX1_tell_38 : decode cX1_tell 38 = .ok (.iadd, 1) := by decide +kernel
theorem dX1_tell_39 : decode cX1_tell 39 = .ok (.iaload, 1) := by decide +kernel
theorem dX1_tell_40 : decode cX1_tell 40 = .ok (.ireturn, 1) := by decide +kernel
theorem dX2_init_0 : decode cX2_init 0 = .ok (.aload_n 0, 1) := by decide +kernel
theorem dX2_init_1 : decode cX2_init 1 = .ok (.invokespecial 3, 3) := by decide +kernel
theorem dX2_init_4 : decode cX2_init 4 = .ok (.aload_n 0, 1) := by decide +kernel
theorem dX2_init_5 : decode cX2_init 5 = .ok (.aload_n 1, 1) := by decide +kernel
theorem dX2_init_6 : decode cX2_init 6 = .ok (.putfield 9, 3) := by decide +kernel
theorem dX2_init_9 : decode cX2_init 9 = .ok (.aload_n 0, 1) := by decide +kernel
theorem dX2_init_10 : decode cX2_init 10 = .ok (.sipush 288, 3) := by decide +kernel
theorem dX2_init_13 : decode cX2_init 13 = .ok (.newarray .int, 2) := by decide +kernel
theorem dX2_init_15 : decode cX2_init 15 = .ok (.putfield 15, 3) := by decide +kernel
theorem dX2_init_18 : decode cX2_init 18 = .ok (.aload_n 0, 1) := by decide +kernel
theorem dX2_init_19 : decode cX2_init 19 = .ok (.sipush 288, 3) := by decide +kernel
theorem dX2_init_22 : decode cX2_init 22 = .ok (.newarray .int, 2) := by decide +kernel
theorem dX2_init_24 : decode cX2_init 24 = .ok (.putfield 19, 3) := by decide +kernel
theorem dX2_init_27 : decode cX2_init 27 = .ok (.aload_n 0, 1) := by decide +kernel
theorem dX2_init_28 : decode cX2_init 28 = .ok (.iconst (-1), 1) := by decide +kernel
theorem dX2_init_29 : decode cX2_init 29 = .ok (.putfield 22, 3) := by decide +kernel
theorem dX2_init_32 : decode cX2_init 32 = .ok (.return_, 1) := by decide +kernel
theorem dX2_settle_0 : decode cX2_settle 0 = .ok (.aload_n 0, 1) := by decide +kernel
theorem dX2_settle_1 : decode cX2_settle 1 = .ok (.getfield 22, 3) := by decide +kernel
theorem dX2_settle_4 : decode cX2_settle 4 = .ok (.aload_n 0, 1) := by decide +kernel
theorem dX2_settle_5 : decode cX2_settle 5 = .ok (.getfield 9, 3) := by decide +kernel
theorem dX2_settle_8 : decode cX2_settle 8 = .ok (.getfield 26, 3) := by decide +kernel
theorem dX2_settle_11 : decode cX2_settle 11 = .ok (.if_icmp .ne 4, 3) := by decide +kernel
theorem dX2_settle_14 : decode cX2_settle 14 = .ok (.return_, 1) := by decide +kernel
theorem dX2_settle_15 : decode cX2_settle 15 = .ok (.aload_n 0, 1) := by decide +kernel
theorem dX2_settle_16 : decode cX2_settle 16 = .ok (.aload_n 0, 1) := by decide +kernel
theorem dX2_settle_17 : decode cX2_settle 17 = .ok (.getfield 9, 3) := by decide +kernel
theorem dX2_settle_20 : decode cX2_settle 20 = .ok (.getfield 26, 3) := by decide +kernel
theorem dX2_settle_23 : decode cX2_settle 23 = .ok (.putfield 22, 3) := by decide +kernel
theorem dX2_settle_26 : decode cX2_settle 26 = .ok (.aload_n 0, 1) := by decide +kernel
theorem dX2_settle_27 : decode cX2_settle 27 = .ok (.iconst 0, 1) := by decide +kernel
theorem dX2_settle_28 : decode cX2_settle 28 = .ok (.putfield 29, 3) := by decide +kernel
theorem dX2_settle_31 : decode cX2_settle 31 = .ok (.iconst 0, 1) := by decide +kernel
theorem dX2_settle_32 : decode cX2_settle 32 = .ok (.istore_n 1, 1) := by decide +kernel
theorem dX2_settle_33 : decode cX2_settle 33 = .ok (.iload_n 1, 1) := by decide +kernel
theorem dX2_settle_34 : decode cX2_settle 34 = .ok (.sipush 288, 3) := by decide +kernel
theorem dX2_settle_37 : decode cX2_settle 37 = .ok (.if_icmp .ge 38, 3) := by decide +kernel
theorem dX2_settle_40 : decode cX2_settle 40 = .ok (.aload_n 0, 1) := by decide +kernel
theorem dX2_settle_41 : decode cX2_settle 41 = .ok (.getfield 9, 3) := by decide +kernel
theorem dX2_settle_44 : decode cX2_settle 44 = .ok (.iload_n 1, 1) := by decide +kernel
theorem dX2_settle_45 : decode cX2_settle 45 = .ok (.invokevirtual 32, 3) := by decide +kernel
theorem dX2_settle_48 : decode cX2_settle 48 = .ok (.astore_n 2, 1) := by decide +kernel
theorem dX2_settle_49 : decode cX2_settle 49 = .ok (.aload_n 0, 1) := by decide +kernel
theorem dX2_settle_50 : decode cX2_settle 50 = .ok (.getfield 15, 3) := by decide +kernel
theorem dX2_settle_53 : decode cX2_settle 53 = .ok (.iload_n 1, 1) := by decide +kernel
theorem dX2_settle_54 : decode cX2_settle 54 = .ok (.aload_n 2, 1) := by decide +kernel
theorem dX2_settle_55 : decode cX2_settle 55 = .ok (.ifnonnull 7, 3) := by decide +kernel
theorem dX2_settle_58 : decode cX2_settle 58 = .ok (.iconst (-1), 1) := by decide +kernel
theorem dX2_settle_59 : decode cX2_settle 59 = .ok (.goto 9, 3) := by decide +kernel
theorem dX2_settle_62 : decode cX2_settle 62 = .ok (.aload_n 0, 1) := by decide +kernel
theorem dX2_settle_63 : decode cX2_settle 63 = .ok (.iload_n 1, 1) := by decide +kernel
theorem dX2_settle_64 : decode cX2_settle 64 = .ok (.aload_n 2, 1) := by decide +kernel
theorem dX2_settle_65 : decode cX2_settle 65 = .ok (.invokevirtual 36, 3) := by decide +kernel
theorem dX2_settle_68 : decode cX2_settle 68 = .ok (.iastore, 1) := by decide +kernel
theorem dX2_settle_69 : decode cX2_settle 69 = .ok (.iinc 1 1, 3) := by decide +kernel
theorem dX2_settle_72 : decode cX2_settle 72 = .ok (.goto (-39), 3) := by decide +kernel
theorem dX2_settle_75 : decode cX2_settle 75 = .ok (.return_, 1) := by decide +kernel
theorem dX2_familyAt_0 : decode cX2_familyAt 0 = .ok (.iload_n 1, 1) := by decide +kernel
theorem dX2_familyAt_1 : decode cX2_familyAt 1 = .ok (.invokestatic 46, 3) := by decide +kernel
theorem dX2_familyAt_4 : decode cX2_familyAt 4 = .ok (.ifCond .eq 12, 3) := by decide +kernel
theorem dX2_familyAt_7 : decode cX2_familyAt 7 = .ok (.aload_n 0, 1) := by decide +kernel
theorem dX2_familyAt_8 : decode cX2_familyAt 8 = .ok (.getfield 15, 3) := by decide +kernel
theorem dX2_familyAt_11 : decode cX2_familyAt 11 = .ok (.iload_n 1, 1) := by decide +kernel
theorem dX2_familyAt_12 : decode cX2_familyAt 12 = .ok (.iaload, 1) := by decide +kernel
theorem dX2_familyAt_13 : decode cX2_familyAt 13 = .ok (.goto 4, 3) := by decide +kernel
theorem dX2_familyAt_16 : decode cX2_familyAt 16 = .ok (.iconst (-1), 1) := by decide +kernel
theorem dX2_familyAt_17 : decode cX2_familyAt 17 = .ok (.ireturn, 1) := by decide +kernel
theorem dX2_neighbourToCopy_0 : decode cX2_neighbourToCopy 0 = .ok (.aload_n 0, 1) := by decide +kernel
theorem dX2_neighbourToCopy_1 : decode cX2_neighbourToCopy 1 = .ok (.getfield 9, 3) := by decide +kernel
theorem dX2_neighbourToCopy_4 : decode cX2_neighbourToCopy 4 = .ok (.iload_n 1, 1) := by decide +kernel
theorem dX2_neighbourToCopy_5 : decode cX2_neighbourToCopy 5 = .ok (.invokevirtual 50, 3) := by decide +kernel
theorem dX2_neighbourToCopy_8 : decode cX2_neighbourToCopy 8 = .ok (.ifCond .ne 5, 3) := by decide +kernel
theorem dX2_neighbourToCopy_11 : decode cX2_neighbourToCopy 11 = .ok (.iconst (-1), 1) := by decide +kernel
theorem dX2_neighbourToCopy_12 : decode cX2_neighbourToCopy 12 = .ok (.ireturn, 1) := by decide +kernel
theorem dX2_neighbourToCopy_13 : decode cX2_neighbourToCopy 13 = .ok (.iload_n 1, 1) := by decide +kernel
theorem dX2_neighbourToCopy_14 : decode cX2_neighbourToCopy 14 = .ok (.bipush 12, 2) := by decide +kernel
theorem dX2_neighbourToCopy_16 : decode cX2_neighbourToCopy 16 = .ok (.irem, 1) := by decide +kernel
theorem dX2_neighbourToCopy_17 : decode cX2_neighbourToCopy 17 = .ok (.istore_n 2, 1) := by decide +kernel
theorem dX2_neighbourToCopy_18 : decode cX2_neighbourToCopy 18 = .ok (.iload_n 2, 1) := by decide +kernel
theorem dX2_neighbourToCopy_19 : decode cX2_neighbourToCopy 19 = .ok (.ifCond .le 27, 3) := by decide +kernel
theorem dX2_neighbourToCopy_22 : decode cX2_neighbourToCopy 22 = .ok (.iload_n 2, 1) := by decide +kernel
theorem dX2_neighbourToCopy_23 : decode cX2_neighbourToCopy 23 = .ok (.bipush 11, 2) := by decide +kernel
theorem dX2_neighbourToCopy_25 : decode cX2_neighbourToCopy 25 = .ok (.if_icmp .ge 21, 3) := by decide +kernel
theorem dX2_neighbourToCopy_28 : decode cX2_neighbourToCopy 28 = .ok (.aload_n 0, 1) := by decide +kernel
theorem dX2_neighbourToCopy_29 : decode cX2_neighbourToCopy 29 = .ok (.iload_n 1, 1) := by decide +kernel
theorem dX2_neighbourToCopy_30 : decode cX2_neighbourToCopy 30 = .ok (.iload_n 1, 1) := by decide +kernel
theorem dX2_neighbourToCopy_31 : decode cX2_neighbourToCopy 31 = .ok (.iconst 1, 1) := by decide +kernel
theorem dX2_neighbourToCopy_32 : decode cX2_neighbourToCopy 32 = .ok (.isub, 1) := by decide +kernel
theorem dX2_neighbourToCopy_33 : decode cX2_neighbourToCopy 33 = .ok (.iload_n 1, 1) := by decide +kernel
theorem dX2_neighbourToCopy_34 : decode cX2_neighbourToCopy 34 = .ok (.iconst 1, 1) := by decide +kernel
theorem dX2_neighbourToCopy_35 : decode cX2_neighbourToCopy 35 = .ok (.iadd, 1) := by decide +kernel
theorem dX2_neighbourToCopy_36 : decode cX2_neighbourToCopy 36 = .ok (.invokevirtual 54, 3) := by decide +kernel
theorem dX2_neighbourToCopy_39 : decode cX2_neighbourToCopy 39 = .ok (.ifCond .eq 7, 3) := by decide +kernel
theorem dX2_neighbourToCopy_42 : decode cX2_neighbourToCopy 42 = .ok (.iload_n 1, 1) := by decide +kernel
theorem dX2_neighbourToCopy_43 : decode cX2_neighbourToCopy 43 = .ok (.iconst 1, 1) := by decide +kernel
theorem dX2_neighbourToCopy_44 : decode cX2_neighbourToCopy 44 = .ok (.isub, 1) := by decide +kernel
theorem dX2_neighbourToCopy_45 : decode cX2_neighbourToCopy 45 = .ok (.ireturn, 1) := by decide +kernel
theorem dX2_neighbourToCopy_46 : decode cX2_neighbourToCopy 46 = .ok (.aload_n 0, 1) := by decide +kernel
theorem dX2_neighbourToCopy_47 : decode cX2_neighbourToCopy 47 = .ok (.iload_n 1, 1) := by decide +kernel
theorem dX2_neighbourToCopy_48 : decode cX2_neighbourToCopy 48 = .ok (.iload_n 1, 1) := by decide +kernel
theorem dX2_neighbourToCopy_49 : decode cX2_neighbourToCopy 49 = .ok (.bipush 12, 2) := by decide +kernel
theorem dX2_neighbourToCopy_51 : decode cX2_neighbourToCopy 51 = .ok (.isub, 1) := by decide +kernel
theorem dX2_neighbourToCopy_52 : decode cX2_neighbourToCopy 52 = .ok (.iload_n 1, 1) := by decide +kernel
theorem dX2_neighbourToCopy_53 : decode cX2_neighbourToCopy 53 = .ok (.bipush 12, 2) := by decide +kernel
theorem dX2_neighbourToCopy_55 : decode cX2_neighbourToCopy 55 = .ok (.iadd, 1) := by decide +kernel
theorem dX2_neighbourToCopy_56 : decode cX2_neighbourToCopy 56 = .ok (.invokevirtual 54, 3) := by decide +kernel
theorem dX2_neighbourToCopy_59 : decode cX2_neighbourToCopy 59 = .ok (.ifCond .eq 10, 3) := by decide +kernel
theorem dX2_neighbourToCopy_62 : decode cX2_neighbourToCopy 62 = .ok (.iload_n 1, 1) := by decide +kernel
theorem dX2_neighbourToCopy_63 : decode cX2_neighbourToCopy 63 = .ok (.bipush 12, 2) := by decide +kernel
theorem dX2_neighbourToCopy_65 : decode cX2_neighbourToCopy 65 = .ok (.isub, 1) := by decide +kernel
theorem dX2_neighbourToCopy_66 : decode cX2_neighbourToCopy 66 = .ok (.goto 4, 3) := by decide +kernel
theorem dX2_neighbourToCopy_69 : decode cX2_neighbourToCopy 69 = .ok (.iconst (-1), 1) := by decide +kernel
theorem dX2_neighbourToCopy_70 : decode cX2_neighbourToCopy 70 = .ok (.ireturn, 1) := by decide +kernel
theorem dX3_init_0 : decode cX3_init 0 = .ok (.aload_n 0, 1) := by decide +kernel
theorem dX3_init_1 : decode cX3_init 1 = .ok (.invokespecial 3, 3) := by decide +kernel
theorem dX3_init_4 : decode cX3_init 4 = .ok (.aload_n 0, 1) := by decide +kernel
theorem dX3_init_5 : decode cX3_init 5 = .ok (.aload_n 1, 1) := by decide +kernel
theorem dX3_init_6 : decode cX3_init 6 = .ok (.putfield 9, 3) := by decide +kernel
theorem dX3_init_9 : decode cX3_init 9 = .ok (.aload_n 0, 1) := by decide +kernel
theorem dX3_init_10 : decode cX3_init 10 = .ok (.aload_n 2, 1) := by decide +kernel
theorem dX3_init_11 : decode cX3_init 11 = .ok (.putfield 15, 3) := by decide +kernel
theorem dX3_init_14 : decode cX3_init 14 = .ok (.aload_n 0, 1) := by decide +kernel
theorem dX3_init_15 : decode cX3_init 15 = .ok (.aload_n 3, 1) := by decide +kernel
theorem dX3_init_16 : decode cX3_init 16 = .ok (.putfield 19, 3) := by decide +kernel
theorem dX3_init_19 : decode cX3_init 19 = .ok (.aload_n 0, 1) := by decide +kernel
theorem dX3_init_20 : decode cX3_init 20 = .ok (.aload 4, 2) := by decide +kernel
theorem dX3_init_22 : decode cX3_init 22 = .ok (.putfield 23, 3) := by decide +kernel
theorem dX3_init_25 : decode cX3_init 25 = .ok (.aload_n 0, 1) := by decide +kernel
theorem dX3_init_26 : decode cX3_init 26 = .ok (.aload 5, 2) := by decide +kernel
theorem dX3_init_28 : decode cX3_init 28 = .ok (.putfield 27, 3) := by decide +kernel
theorem dX3_init_31 : decode cX3_init 31 = .ok (.aload_n 0, 1) := by decide +kernel
theorem dX3_init_32 : decode cX3_init 32 = .ok (.sipush 900, 3) := by decide +kernel
theorem dX3_init_35 : decode cX3_init 35 = .ok (.newarray .int, 2) := by decide +kernel
theorem dX3_init_37 : decode cX3_init 37 = .ok (.putfield 31, 3) := by decide +kernel
theorem dX3_init_40 : decode cX3_init 40 = .ok (.aload_n 0, 1) := by decide +kernel
theorem dX3_init_41 : decode cX3_init 41 = .ok (.iconst 0, 1) := by decide +kernel
theorem dX3_init_42 : decode cX3_init 42 = .ok (.putfield 35, 3) := by decide +kernel
theorem dX3_init_45 : decode cX3_init 45 = .ok (.return_, 1) := by decide +kernel
theorem dX3_gather_0 : decode cX3_gather 0 = .ok (.aload_n 0, 1) := by decide +kernel
theorem dX3_gather_1 : decode cX3_gather 1 = .ok (.iconst 0, 1) := by decide +kernel
theorem dX3_gather_2 : decode cX3_gather 2 = .ok (.putfield 35, 3) := by decide +kernel
theorem dX3_gather_5 : decode cX3_gather 5 = .ok (.aload_n 0, 1) := by decide +kernel
theorem dX3_gather_6 : decode cX3_gather 6 = .ok (.getfield 27, 3) := by decide +kernel
theorem dX3_gather_9 : decode cX3_gather 9 = .ok (.invokevirtual 39, 3) := by decide +kernel
theorem dX3_gather_12 : decode cX3_gather 12 = .ok (.iconst 0, 1) := by decide +kernel
theorem dX3_gather_13 : decode cX3_gather 13 = .ok (.istore_n 1, 1) := by decide +kernel
theorem dX3_gather_14 : decode cX3_gather 14 = .ok (.iload_n 1, 1) := by decide +kernel
theorem dX3_gather_15 : decode cX3_gather 15 = .ok (.sipush 288, 3) := by decide +kernel
theorem dX3_gather_18 : decode cX3_gather 18 = .ok (.if_icmp .ge 25, 3) := by decide +kernel
theorem dX3_gather_21 : decode cX3_gather 21 = .ok (.aload_n 0, 1) := by decide +kernel
theorem dX3_gather_22 : decode cX3_gather 22 = .ok (.getfield 9, 3) := by decide +kernel
theorem dX3_gather_25 : decode cX3_gather 25 = .ok (.iload_n 1, 1) := by decide +kernel
theorem dX3_gather_26 : decode cX3_gather 26 = .ok (.invokevirtual 44, 3) := by decide +kernel
theorem dX3_gather_29 : decode cX3_gather 29 = .ok (.ifCond .eq 8, 3) := by decide +kernel
theorem dX3_gather_32 : decode cX3_gather 32 = .ok (.aload_n 0, 1) := by decide +kernel
theorem dX3_gather_33 : decode cX3_gather 33 = .ok (.iload_n 1, 1) := by decide +kernel
theorem dX3_gather_34 : decode cX3_gather 34 = .ok (.invokevirtual 50, 3) := by decide +kernel
theorem dX3_gather_37 : decode cX3_gather 37 = .ok (.iinc 1 1, 3) := by decide +kernel
theorem dX3_gather_40 : decode cX3_gather 40 = .ok (.goto (-26), 3) := by decide +kernel
theorem dX3_gather_43 : decode cX3_gather 43 = .ok (.aload_n 0, 1) := by decide +kernel
theorem dX3_gather_44 : decode cX3_gather 44 = .ok (.getfield 35, 3) := by decide +kernel
theorem dX3_gather_47 : decode cX3_gather 47 = .ok (.ireturn, 1) := by decide +kernel
theorem dX3_tell_0 : decode cX3_tell 0 = .ok (.iload_n 1, 1) := by decide +kernel
theorem dX3_tell_1 : decode cX3_tell 1 = .ok (.ifCond .lt 27, 3) := by decide +kernel
theorem dX3_tell_4 : decode cX3_tell 4 = .ok (.iload_n 1, 1) := by decide +kernel
theorem dX3_tell_5 : decode cX3_tell 5 = .ok (.aload_n 0, 1) := by decide +kernel
theorem dX3_tell_6 : decode cX3_tell 6 = .ok (.getfield 35, 3) := by decide +kernel
theorem dX3_tell_9 : decode cX3_tell 9 = .ok (.if_icmp .ge 19, 3) := by decide +kernel
theorem dX3_tell_12 : decode cX3_tell 12 = .ok (.iload_n 1, 1) := by decide +kernel
theorem dX3_tell_13 : decode cX3_tell 13 = .ok (.sipush 300, 3) := by decide +kernel
theorem dX3_tell_16 : decode cX3_tell 16 = .ok (.if_icmp .ge 12, 3) := by decide +kernel
theorem dX3_tell_19 : decode cX3_tell 19 = .ok (.iload_n 2, 1) := by decide +kernel
theorem dX3_tell_20 : decode cX3_tell 20 = .ok (.ifCond .lt 8, 3) := by decide +kernel
theorem dX3_tell_23 : decode cX3_tell 23 = .ok (.iload_n 2, 1) := by decide +kernel
theorem dX3_tell_24 : decode cX3_tell 24 = .ok (.iconst 3, 1) := by decide +kernel
theorem dX3_tell_25 : decode cX3_tell 25 = .ok (.if_icmp .lt 5, 3) := by decide +kernel
theorem dX3_tell_28 : decode cX3_tell 28 = .ok (.iconst (-1), 1) := by decide +kernel
theorem dX3_tell_29 : decode cX3_tell 29 = .ok (.ireturn, 1) := by decide +kernel
theorem dX3_tell_30 : decode cX3_tell 30 = .ok (.aload_n 0, 1) := by decide +kernel
theorem dX3_tell_31 : decode cX3_tell 31 = .ok (.getfield 31, 3) := by decide +kernel
theorem dX3_tell_34 : decode cX3_tell 34 = .ok (.iload_n 1, 1) := by decide +kernel
theorem dX3_tell_35 : decode cX3_tell 35 = .ok (.iconst 3, 1) := by decide +kernel
theorem dX3_tell_36 : decode cX3_tell 36 = .ok (.imul, 1) := by decide +kernel
theorem dX3_tell_37 : decode cX3_tell 37 = .ok (.iload_n 2, 1) := by decide +kernel
theorem dX3_tell_38 : decode cX3_tell 38 = .ok (.iadd, 1) := by decide +kernel
theorem dX3_tell_39 : decode cX3_tell 39 = .ok (.iaload, 1) := by decide +kernel
theorem dX3_tell_40 : decode cX3_tell 40 = .ok (.ireturn, 1) := by decide +kernel
theorem dX5_init_0 : decode cX5_init 0 = .ok (.aload_n 0, 1) := by decide +kernel
theorem dX5_init_1 : decode cX5_init 1 = .ok (.invokespecial 3, 3) := by decide +kernel
theorem dX5_init_4 : decode cX5_init 4 = .ok (.aload_n 0, 1) := by decide +kernel
theorem dX5_init_5 : decode cX5_init 5 = .ok (.aload_n 1, 1) := by decide +kernel
theorem dX5_init_6 : decode cX5_init 6 = .ok (.putfield 9, 3) := by decide +kernel
theorem dX5_init_9 : decode cX5_init 9 = .ok (.aload_n 0, 1) := by decide +kernel
theorem dX5_init_10 : decode cX5_init 10 = .ok (.sipush 288, 3) := by decide +kernel
theorem dX5_init_13 : decode cX5_init 13 = .ok (.newarray .int, 2) := by decide +kernel
theorem dX5_init_15 : decode cX5_init 15 = .ok (.putfield 15, 3) := by decide +kernel
theorem dX5_init_18 : decode cX5_init 18 = .ok (.aload_n 0, 1) := by decide +kernel
theorem dX5_init_19 : decode cX5_init 19 = .ok (.iconst 5, 1) := by decide +kernel
theorem dX5_init_20 : decode cX5_init 20 = .ok (.newarray .long, 2) := by decide +kernel
theorem dX5_init_22 : decode cX5_init 22 = .ok (.putfield 19, 3) := by decide +kernel
theorem dX5_init_25 : decode cX5_init 25 = .ok (.aload_n 0, 1) := by decide +kernel
theorem dX5_init_26 : decode cX5_init 26 = .ok (.sipush 1440, 3) := by decide +kernel
theorem dX5_init_29 : decode cX5_init 29 = .ok (.newarray .long, 2) := by decide +kernel
theorem dX5_init_31 : decode cX5_init 31 = .ok (.putfield 23, 3) := by decide +kernel
theorem dX5_init_34 : decode cX5_init 34 = .ok (.aload_n 0, 1) := by decide +kernel
theorem dX5_init_35 : decode cX5_init 35 = .ok (.sipush 1440, 3) := by decide +kernel
theorem dX5_init_38 : decode cX5_init 38 = .ok (.newarray .long, 2) := by decide +kernel
theorem dX5_init_40 : decode cX5_init 40 = .ok (.putfield 26, 3) := by decide +kernel
theorem dX5_init_43 : decode cX5_init 43 = .ok (.aload_n 0, 1) := by decide +kernel
theorem dX5_init_44 : decode cX5_init 44 = .ok (.sipush 288, 3) := by decide +kernel
theorem dX5_init_47 : decode cX5_init 47 = .ok (.newarray .boolean, 2) := by decide +kernel
theorem dX5_init_49 : decode cX5_init 49 = .ok (.putfield 29, 3) := by decide +kernel
theorem dX5_init_52 : decode cX5_init 52 = .ok (.aload_n 0, 1) := by decide +kernel
theorem dX5_init_53 : decode cX5_init 53 = .ok (.sipush 288, 3) := by decide +kernel
theorem dX5_init_56 : decode cX5_init 56 = .ok (.newarray .int, 2) := by decide +kernel
theorem dX5_init_58 : decode cX5_init 58 = .ok (.putfield 33, 3) := by decide +kernel
theorem dX5_init_61 : decode cX5_init 61 = .ok (.aload_n 0, 1) := by decide +kernel
theorem dX5_init_62 : decode cX5_init 62 = .ok (.sipush 288, 3) := by decide +kernel
theorem dX5_init_65 : decode cX5_init 65 = .ok (.newarray .int, 2) := by decide +kernel
theorem dX5_init_67 : decode cX5_init 67 = .ok (.putfield 36, 3) := by decide +kernel
theorem dX5_init_70 : decode cX5_init 70 = .ok (.aload_n 0, 1) := by decide +kernel
theorem dX5_init_71 : decode cX5_init 71 = .ok (.sipush 288, 3) := by decide +kernel
theorem dX5_init_74 : decode cX5_init 74 = .ok (.newarray .int, 2) := by decide +kernel
theorem dX5_init_76 : decode cX5_init 76 = .ok (.putfield 39, 3) := by decide +kernel
theorem dX5_init_79 : decode cX5_init 79 = .ok (.aload_n 0, 1) := by decide +kernel
theorem dX5_init_80 : decode cX5_init 80 = .ok (.iconst (-1), 1) := by decide +kernel
theorem dX5_init_81 : decode cX5_init 81 = .ok (.putfield 42, 3) := by decide +kernel
theorem dX5_init_84 : decode cX5_init 84 = .ok (.return_, 1) := by decide +kernel
theorem dX5_settle_0 : decode cX5_settle 0 = .ok (.aload_n 0, 1) := by decide +kernel
theorem dX5_settle_1 : decode cX5_settle 1 = .ok (.getfield 42, 3) := by decide +kernel
theorem dX5_settle_4 : decode cX5_settle 4 = .ok (.aload_n 0, 1) := by decide +kernel
theorem dX5_settle_5 : decode cX5_settle 5 = .ok (.getfield 9, 3) := by decide +kernel
theorem dX5_settle_8 : decode cX5_settle 8 = .ok (.getfield 46, 3) := by decide +kernel
theorem dX5_settle_11 : decode cX5_settle 11 = .ok (.if_icmp .ne 4, 3) := by decide +kernel
theorem dX5_settle_14 : decode cX5_settle 14 = .ok (.return_, 1) := by decide +kernel
theorem dX5_settle_15 : decode cX5_settle 15 = .ok (.aload_n 0, 1) := by decide +kernel
theorem dX5_settle_16 : decode cX5_settle 16 = .ok (.aload_n 0, 1) := by decide +kernel
theorem dX5_settle_17 : decode cX5_settle 17 = .ok (.getfield 9, 3) := by decide +kernel
theorem dX5_settle_20 : decode cX5_settle 20 = .ok (.getfield 46, 3) := by decide +kernel
theorem dX5_settle_23 : decode cX5_settle 23 = .ok (.putfield 42, 3) := by decide +kernel
theorem dX5_settle_26 : decode cX5_settle 26 = .ok (.aload_n 0, 1) := by decide +kernel
theorem dX5_settle_27 : decode cX5_settle 27 = .ok (.invokevirtual 49, 3) := by decide +kernel
theorem dX5_settle_30 : decode cX5_settle 30 = .ok (.aload_n 0, 1) := by decide +kernel
theorem dX5_settle_31 : decode cX5_settle 31 = .ok (.invokevirtual 52, 3) := by decide +kernel
theorem dX5_settle_34 : decode cX5_settle 34 = .ok (.aload_n 0, 1) := by decide +kernel
theorem dX5_settle_35 : decode cX5_settle 35 = .ok (.iconst 0, 1) := by decide +kernel
theorem dX5_settle_36 : decode cX5_settle 36 = .ok (.putfield 55, 3) := by decide +kernel
theorem dX5_settle_39 : decode cX5_settle 39 = .ok (.iconst 0, 1) := by decide +kernel
theorem dX5_settle_40 : decode cX5_settle 40 = .ok (.istore_n 1, 1) := by decide +kernel
theorem dX5_settle_41 : decode cX5_settle 41 = .ok (.iload_n 1, 1) := by decide +kernel
theorem dX5_settle_42 : decode cX5_settle 42 = .ok (.aload_n 0, 1) := by decide +kernel
theorem dX5_settle_43 : decode cX5_settle 43 = .ok (.getfield 58, 3) := by decide +kernel
theorem dX5_settle_46 : decode cX5_settle 46 = .ok (.if_icmp .ge 41, 3) := by decide +kernel
theorem dX5_settle_49 : decode cX5_settle 49 = .ok (.aload_n 0, 1) := by decide +kernel
theorem dX5_settle_50 : decode cX5_settle 50 = .ok (.getfield 15, 3) := by decide +kernel
theorem dX5_settle_53 : decode cX5_settle 53 = .ok (.iload_n 1, 1) := by decide +kernel
theorem dX5_settle_54 : decode cX5_settle 54 = .ok (.iaload, 1) := by decide +kernel
theorem dX5_settle_55 : decode cX5_settle 55 = .ok (.istore_n 2, 1) := by decide +kernel
theorem dX5_settle_56 : decode cX5_settle 56 = .ok (.aload_n 0, 1) := by decide +kernel
theorem dX5_settle_57 : decode cX5_settle 57 = .ok (.getfield 33, 3) := by decide +kernel
theorem dX5_settle_60 : decode cX5_settle 60 = .ok (.iload_n 2, 1) := by decide +kernel
theorem dX5_settle_61 : decode cX5_settle 61 = .ok (.aload_n 0, 1) := by decide +kernel
theorem dX5_settle_62 : decode cX5_settle 62 = .ok (.iload_n 2, 1) := by decide +kernel
theorem dX5_settle_63 : decode cX5_settle 63 = .ok (.invokevirtual 61, 3) := by decide +kernel
theorem dX5_settle_66 : decode cX5_settle 66 = .ok (.iastore, 1) := by decide +kernel
theorem dX5_settle_67 : decode cX5_settle 67 = .ok (.aload_n 0, 1) := by decide +kernel
theorem dX5_settle_68 : decode cX5_settle 68 = .ok (.getfield 33, 3) := by decide +kernel
theorem dX5_settle_71 : decode cX5_settle 71 = .ok (.iload_n 2, 1) := by decide +kernel
theorem dX5_settle_72 : decode cX5_settle 72 = .ok (.iaload, 1) := by decide +kernel
theorem dX5_settle_73 : decode cX5_settle 73 = .ok (.ifCond .ne 8, 3) := by decide +kernel
theorem dX5_settle_76 : decode cX5_settle 76 = .ok (.aload_n 0, 1) := by decide +kernel
theorem dX5_settle_77 : decode cX5_settle 77 = .ok (.iload_n 2, 1) := by decide +kernel
theorem dX5_settle_78 : decode cX5_settle 78 = .ok (.invokevirtual 65, 3) := by decide +kernel
theorem dX5_settle_81 : decode cX5_settle 81 = .ok (.iinc 1 1, 3) := by decide +kernel
theorem dX5_settle_84 : decode cX5_settle 84 = .ok (.goto (-43), 3) := by decide +kernel
theorem dX5_settle_87 : decode cX5_settle 87 = .ok (.aload_n 0, 1) := by decide +kernel
theorem dX5_settle_88 : decode cX5_settle 88 = .ok (.iconst 0, 1) := by decide +kernel
theorem dX5_settle_89 : decode cX5_settle 89 = .ok (.invokevirtual 69, 3) := by decide +kernel
theorem dX5_settle_92 : decode cX5_settle 92 = .ok (.aload_n 0, 1) := by decide +kernel
theorem dX5_settle_93 : decode cX5_settle 93 = .ok (.getfield 55, 3) := by decide +kernel
theorem dX5_settle_96 : decode cX5_settle 96 = .ok (.aload_n 0, 1) := by decide +kernel
theorem dX5_settle_97 : decode cX5_settle 97 = .ok (.getfield 58, 3) := by decide +kernel
theorem dX5_settle_100 : decode cX5_settle 100 = .ok (.if_icmp .ge 17, 3) := by decide +kernel
theorem dX5_settle_103 : decode cX5_settle 103 = .ok (.aload_n 0, 1) := by decide +kernel
theorem dX5_settle_104 : decode cX5_settle 104 = .ok (.getfield 55, 3) := by decide +kernel
theorem dX5_settle_107 : decode cX5_settle 107 = .ok (.istore_n 1, 1) := by decide +kernel
theorem dX5_settle_108 : decode cX5_settle 108 = .ok (.aload_n 0, 1) := by decide +kernel
theorem dX5_settle_109 : decode cX5_settle 109 = .ok (.invokevirtual 72, 3) := by decide +kernel
theorem dX5_settle_112 : decode cX5_settle 112 = .ok (.aload_n 0, 1) := by decide +kernel
theorem dX5_settle_113 : decode cX5_settle 113 = .ok (.iload_n 1, 1) := by decide +kernel
theorem dX5_settle_114 : decode cX5_settle 114 = .ok (.invokevirtual 69, 3) := by decide +kernel
theorem dX5_settle_117 : decode cX5_settle 117 = .ok (.return_, 1) := by decide +kernel
theorem dX5_orderSize_0 : decode cX5_orderSize 0 = .ok (.aload_n 0, 1) := by decide +kernel
theorem dX5_orderSize_1 : decode cX5_orderSize 1 = .ok (.getfield 55, 3) := by decide +kernel
theorem dX5_orderSize_4 : decode cX5_orderSize 4 = .ok (.ireturn, 1) := by decide +kernel
theorem dX5_cellsReadBy_0 : decode cX5_cellsReadBy 0 = .ok (.iconst 0, 1) := by decide +kernel
theorem dX5_cellsReadBy_1 : decode cX5_cellsReadBy 1 = .ok (.istore_n 2, 1) := by decide +kernel
theorem dX5_cellsReadBy_2 : decode cX5_cellsReadBy 2 = .ok (.iload_n 1, 1) := by decide +kernel
theorem dX5_cellsReadBy_3 : decode cX5_cellsReadBy 3 = .ok (.invokestatic 75, 3) := by decide +kernel
theorem dX5_cellsReadBy_6 : decode cX5_cellsReadBy 6 = .ok (.ifCond .eq 32, 3) := by decide +kernel
theorem dX5_cellsReadBy_9 : decode cX5_cellsReadBy 9 = .ok (.iconst 0, 1) := by decide +kernel
theorem dX5_cellsReadBy_10 : decode cX5_cellsReadBy 10 = .ok (.istore_n 3, 1) := by decide +kernel
theorem dX5_cellsReadBy_11 : decode cX5_cellsReadBy 11 = .ok (.iload_n 3, 1) := by decide +kernel
theorem dX5_cellsReadBy_12 : decode cX5_cellsReadBy 12 = .ok (.iconst 5, 1) := by decide +kernel
theorem dX5_cellsReadBy_13 : decode cX5_cellsReadBy 13 = .ok (.if_icmp .ge 25, 3) := by decide +kernel
theorem dX5_cellsReadBy_16 : decode cX5_cellsReadBy 16 = .ok (.iload_n 2, 1) := by decide +kernel
theorem dX5_cellsReadBy_17 : decode cX5_cellsReadBy 17 = .ok (.aload_n 0, 1) := by decide +kernel
theorem dX5_cellsReadBy_18 : decode cX5_cellsReadBy 18 = .ok (.getfield 23, 3) := by decide +kernel
theorem dX5_cellsReadBy_21 : decode cX5_cellsReadBy 21 = .ok (.iload_n 1, 1) := by decide +kernel
theorem dX5_cellsReadBy_22 : decode cX5_cellsReadBy 22 = .ok (.iconst 5, 1) := by decide +kernel
theorem dX5_cellsReadBy_23 : decode cX5_cellsReadBy 23 = .ok (.imul, 1) := by decide +kernel
theorem dX5_cellsReadBy_24 : decode cX5_cellsReadBy 24 = .ok (.iload_n 3, 1) := by decide +kernel
theorem dX5_cellsReadBy_25 : decode cX5_cellsReadBy 25 = .ok (.iadd, 1) := by decide +kernel
theorem dX5_cellsReadBy_26 : decode cX5_cellsReadBy 26 = .ok (.laload, 1) := by decide +kernel
theorem dX5_cellsReadBy_27 : decode cX5_cellsReadBy 27 = .ok (.invokestatic 79, 3) := by decide +kernel
theorem dX5_cellsReadBy_30 : decode cX5_cellsReadBy 30 = .ok (.iadd, 1) := by decide +kernel
theorem dX5_cellsReadBy_31 : decode cX5_cellsReadBy 31 = .ok (.istore_n 2, 1) := by decide +kernel
theorem dX5_cellsReadBy_32 : decode cX5_cellsReadBy 32 = .ok (.iinc 3 1, 3) := by decide +kernel
theorem dX5_cellsReadBy_35 : decode cX5_cellsReadBy 35 = .ok (.goto (-24), 3) := by decide +kernel
theorem dX5_cellsReadBy_38 : decode cX5_cellsReadBy 38 = .ok (.iload_n 2, 1) := by decide +kernel
theorem dX5_cellsReadBy_39 : decode cX5_cellsReadBy 39 = .ok (.ireturn, 1) := by decide +kernel
theorem dX5_readersOf_0 : decode cX5_readersOf 0 = .ok (.iconst 0, 1) := by decide +kernel
theorem dX5_readersOf_1 : decode cX5_readersOf 1 = .ok (.istore_n 2, 1) := by decide +kernel
theorem dX5_readersOf_2 : decode cX5_readersOf 2 = .ok (.iconst 0, 1) := by decide +kernel
theorem dX5_readersOf_3 : decode cX5_readersOf 3 = .ok (.istore_n 3, 1) := by decide +kernel
theorem dX5_readersOf_4 : decode cX5_readersOf 4 = .ok (.iload_n 3, 1) := by decide +kernel
theorem dX5_readersOf_5 : decode cX5_readersOf 5 = .ok (.aload_n 0, 1) := by decide +kernel
theorem dX5_readersOf_6 : decode cX5_readersOf 6 = .ok (.getfield 58, 3) := by decide +kernel
theorem dX5_readersOf_9 : decode cX5_readersOf 9 = .ok (.if_icmp .ge 29, 3) := by decide +kernel
theorem dX5_readersOf_12 : decode cX5_readersOf 12 = .ok (.aload_n 0, 1) := by decide +kernel
theorem dX5_readersOf_13 : decode cX5_readersOf 13 = .ok (.getfield 23, 3) := by decide +kernel
theorem dX5_readersOf_16 : decode cX5_readersOf 16 = .ok (.aload_n 0, 1) := by decide +kernel
theorem dX5_readersOf_17 : decode cX5_readersOf 17 = .ok (.getfield 15, 3) := by decide +kernel
theorem dX5_readersOf_20 : decode cX5_readersOf 20 = .ok (.iload_n 3, 1) := by decide +kernel
theorem dX5_readersOf_21 : decode cX5_readersOf 21 = .ok (.iaload, 1) := by decide +kernel
theorem dX5_readersOf_22 : decode cX5_readersOf 22 = .ok (.iload_n 1, 1) := by decide +kernel
theorem dX5_readersOf_23 : decode cX5_readersOf 23 = .ok (.invokestatic 85, 3) := by decide +kernel
theorem dX5_readersOf_26 : decode cX5_readersOf 26 = .ok (.ifCond .eq 6, 3) := by decide +kernel
theorem dX5_readersOf_29 : decode cX5_readersOf 29 = .ok (.iinc 2 1, 3) := by decide +kernel
theorem dX5_readersOf_32 : decode cX5_readersOf 32 = .ok (.iinc 3 1, 3) := by decide +kernel
theorem dX5_readersOf_35 : decode cX5_readersOf 35 = .ok (.goto (-31), 3) := by decide +kernel
theorem dX5_readersOf_38 : decode cX5_readersOf 38 = .ok (.iload_n 2, 1) := by decide +kernel
theorem dX5_readersOf_39 : decode cX5_readersOf 39 = .ok (.ireturn, 1) := by decide +kernel
theorem dX5_forgetReads_0 : decode cX5_forgetReads 0 = .ok (.iconst 0, 1) := by decide +kernel
theorem dX5_forgetReads_1 : decode cX5_forgetReads 1 = .ok (.istore_n 1, 1) := by decide +kernel
theorem dX5_forgetReads_2 : decode cX5_forgetReads 2 = .ok (.iload_n 1, 1) := by decide +kernel
theorem dX5_forgetReads_3 : decode cX5_forgetReads 3 = .ok (.aload_n 0, 1) := by decide +kernel
theorem dX5_forgetReads_4 : decode cX5_forgetReads 4 = .ok (.getfield 58, 3) := by decide +kernel
theorem dX5_forgetReads_7 : decode cX5_forgetReads 7 = .ok (.if_icmp .ge 38, 3) := by decide +kernel
theorem dX5_forgetReads_10 : decode cX5_forgetReads 10 = .ok (.iconst 0, 1) := by decide +kernel
theorem dX5_forgetReads_11 : decode cX5_forgetReads 11 = .ok (.istore_n 2, 1) := by decide +kernel
theorem dX5_forgetReads_12 : decode cX5_forgetReads 12 = .ok (.iload_n 2, 1) := by decide +kernel
theorem dX5_forgetReads_13 : decode cX5_forgetReads 13 = .ok (.iconst 5, 1) := by decide +kernel
theorem dX5_forgetReads_14 : decode cX5_forgetReads 14 = .ok (.if_icmp .ge 25, 3) := by decide +kernel
theorem dX5_forgetReads_17 : decode cX5_forgetReads 17 = .ok (.aload_n 0, 1) := by decide +kernel
theorem dX5_forgetReads_18 : decode cX5_forgetReads 18 = .ok (.getfield 23, 3) := by decide +kernel
theorem dX5_forgetReads_21 : decode cX5_forgetReads 21 = .ok (.aload_n 0, 1) := by decide +kernel
theorem dX5_forgetReads_22 : decode cX5_forgetReads 22 = .ok (.getfield 15, 3) := by decide +kernel
theorem dX5_forgetReads_25 : decode cX5_forgetReads 25 = .ok (.iload_n 1, 1) := by decide +kernel
theorem dX5_forgetReads_26 : decode cX5_forgetReads 26 = .ok (.iaload, 1) := by decide +kernel
theorem dX5_forgetReads_27 : decode cX5_forgetReads 27 = .ok (.iconst 5, 1) := by decide +kernel
theorem dX5_forgetReads_28 : decode cX5_forgetReads 28 = .ok (.imul, 1) := by decide +kernel
theorem dX5_forgetReads_29 : decode cX5_forgetReads 29 = .ok (.iload_n 2, 1) := by decide +kernel
theorem dX5_forgetReads_30 : decode cX5_forgetReads 30 = .ok (.iadd, 1) := by decide +kernel
theorem dX5_forgetReads_31 : decode cX5_forgetReads 31 = .ok (.lconst 0, 1) := by decide +kernel
theorem dX5_forgetReads_32 : decode cX5_forgetReads 32 = .ok (.lastore, 1) := by decide +kernel
theorem dX5_forgetReads_33 : decode cX5_forgetReads 33 = .ok (.iinc 2 1, 3) := by decide +kernel
theorem dX5_forgetReads_36 : decode cX5_forgetReads 36 = .ok (.goto (-24), 3) := by decide +kernel
theorem dX5_forgetReads_39 : decode cX5_forgetReads 39 = .ok (.iinc 1 1, 3) := by decide +kernel
theorem dX5_forgetReads_42 : decode cX5_forgetReads 42 = .ok (.goto (-40), 3) := by decide +kernel
theorem dX5_forgetReads_45 : decode cX5_forgetReads 45 = .ok (.iconst 0, 1) := by decide +kernel
theorem dX5_forgetReads_46 : decode cX5_forgetReads 46 = .ok (.istore_n 1, 1) := by decide +kernel
theorem dX5_forgetReads_47 : decode cX5_forgetReads 47 = .ok (.iload_n 1, 1) := by decide +kernel
theorem dX5_forgetReads_48 : decode cX5_forgetReads 48 = .ok (.iconst 5, 1) := by decide +kernel
theorem dX5_forgetReads_49 : decode cX5_forgetReads 49 = .ok (.if_icmp .ge 16, 3) := by decide +kernel
theorem dX5_forgetReads_52 : decode cX5_forgetReads 52 = .ok (.aload_n 0, 1) := by decide +kernel
theorem dX5_forgetReads_53 : decode cX5_forgetReads 53 = .ok (.getfield 19, 3) := by decide +kernel
theorem dX5_forgetReads_56 : decode cX5_forgetReads 56 = .ok (.iload_n 1, 1) := by decide +kernel
theorem dX5_forgetReads_57 : decode cX5_forgetReads 57 = .ok (.lconst 0, 1) := by decide +kernel
theorem dX5_forgetReads_58 : decode cX5_forgetReads 58 = .ok (.lastore, 1) := by decide +kernel
theorem dX5_forgetReads_59 : decode cX5_forgetReads 59 = .ok (.iinc 1 1, 3) := by decide +kernel
theorem dX5_forgetReads_62 : decode cX5_forgetReads 62 = .ok (.goto (-15), 3) := by decide +kernel
theorem dX5_forgetReads_65 : decode cX5_forgetReads 65 = .ok (.aload_n 0, 1) := by decide +kernel
theorem dX5_forgetReads_66 : decode cX5_forgetReads 66 = .ok (.iconst 0, 1) := by decide +kernel
theorem dX5_forgetReads_67 : decode cX5_forgetReads 67 = .ok (.putfield 58, 3) := by decide +kernel
theorem dX5_forgetReads_70 : decode cX5_forgetReads 70 = .ok (.return_, 1) := by decide +kernel
theorem dX5_gatherReads_0 : decode cX5_gatherReads 0 = .ok (.iconst 0, 1) := by decide +kernel
theorem dX5_gatherReads_1 : decode cX5_gatherReads 1 = .ok (.istore_n 1, 1) := by decide +kernel
theorem dX5_gatherReads_2 : decode cX5_gatherReads 2 = .ok (.iload_n 1, 1) := by decide +kernel
theorem dX5_gatherReads_3 : decode cX5_gatherReads 3 = .ok (.sipush 288, 3) := by decide +kernel
theorem dX5_gatherReads_6 : decode cX5_gatherReads 6 = .ok (.if_icmp .ge 81, 3) := by decide +kernel
theorem dX5_gatherReads_9 : decode cX5_gatherReads 9 = .ok (.aload_n 0, 1) := by decide +kernel
theorem dX5_gatherReads_10 : decode cX5_gatherReads 10 = .ok (.getfield 29, 3) := by decide +kernel
theorem dX5_gatherReads_13 : decode cX5_gatherReads 13 = .ok (.iload_n 1, 1) := by decide +kernel
theorem dX5_gatherReads_14 : decode cX5_gatherReads 14 = .ok (.iconst 0, 1) := by decide +kernel
theorem dX5_gatherReads_15 : decode cX5_gatherReads 15 = .ok (.bastore, 1) := by decide +kernel
theorem dX5_gatherReads_16 : decode cX5_gatherReads 16 = .ok (.aload_n 0, 1) := by decide +kernel
theorem dX5_gatherReads_17 : decode cX5_gatherReads 17 = .ok (.getfield 33, 3) := by decide +kernel
theorem dX5_gatherReads_20 : decode cX5_gatherReads 20 = .ok (.iload_n 1, 1) := by decide +kernel
theorem dX5_gatherReads_21 : decode cX5_gatherReads 21 = .ok (.iconst 0, 1) := by decide +kernel
theorem dX5_gatherReads_22 : decode cX5_gatherReads 22 = .ok (.iastore, 1) := by decide +kernel
theorem dX5_gatherReads_23 : decode cX5_gatherReads 23 = .ok (.aload_n 0, 1) := by decide +kernel
theorem dX5_gatherReads_24 : decode cX5_gatherReads 24 = .ok (.getfield 9, 3) := by decide +kernel
theorem dX5_gatherReads_27 : decode cX5_gatherReads 27 = .ok (.iload_n 1, 1) := by decide +kernel
theorem dX5_gatherReads_28 : decode cX5_gatherReads 28 = .ok (.invokevirtual 89, 3) := by decide +kernel
theorem dX5_gatherReads_31 : decode cX5_gatherReads 31 = .ok (.astore_n 2, 1) := by decide +kernel
theorem dX5_gatherReads_32 : decode cX5_gatherReads 32 = .ok (.aload_n 2, 1) := by decide +kernel
theorem dX5_gatherReads_33 : decode cX5_gatherReads 33 = .ok (.ifnull 48, 3) := by decide +kernel
theorem dX5_gatherReads_36 : decode cX5_gatherReads 36 = .ok (.aload_n 0, 1) := by decide +kernel
theorem dX5_gatherReads_37 : decode cX5_gatherReads 37 = .ok (.getfield 58, 3) := by decide +kernel
theorem dX5_gatherReads_40 : decode cX5_gatherReads 40 = .ok (.sipush 288, 3) := by decide +kernel
theorem dX5_gatherReads_43 : decode cX5_gatherReads 43 = .ok (.if_icmp .ge 38, 3) := by decide +kernel
theorem dX5_gatherReads_46 : decode cX5_gatherReads 46 = .ok (.aload_n 0, 1) := by decide +kernel
theorem dX5_gatherReads_47 : decode cX5_gatherReads 47 = .ok (.getfield 15, 3) := by decide +kernel
theorem dX5_gatherReads_50 : decode cX5_gatherReads 50 = .ok (.aload_n 0, 1) := by decide +kernel
theorem dX5_gatherReads_51 : decode cX5_gatherReads 51 = .ok (.getfield 58, 3) := by decide +kernel
theorem dX5_gatherReads_54 : decode cX5_gatherReads 54 = .ok (.iload_n 1, 1) := by decide +kernel
theorem dX5_gatherReads_55 : decode cX5_gatherReads 55 = .ok (.iastore, 1) := by decide +kernel
theorem dX5_gatherReads_56 : decode cX5_gatherReads 56 = .ok (.aload_n 0, 1) := by decide +kernel
theorem dX5_gatherReads_57 : decode cX5_gatherReads 57 = .ok (.dup, 1) := by decide +kernel
theorem dX5_gatherReads_58 : decode cX5_gatherReads 58 = .ok (.getfield 58, 3) := by decide +kernel
theorem dX5_gatherReads_61 : decode cX5_gatherReads 61 = .ok (.iconst 1, 1) := by decide +kernel
theorem dX5_gatherReads_62 : decode cX5_gatherReads 62 = .ok (.iadd, 1) := by decide +kernel
theorem dX5_gatherReads_63 : decode cX5_gatherReads 63 = .ok (.putfield 58, 3) := by decide +kernel
theorem dX5_gatherReads_66 : decode cX5_gatherReads 66 = .ok (.aload_n 0, 1) := by decide +kernel
theorem dX5_gatherReads_67 : decode cX5_gatherReads 67 = .ok (.getfield 19, 3) := by decide +kernel
theorem dX5_gatherReads_70 : decode cX5_gatherReads 70 = .ok (.iconst 0, 1) := by decide +kernel
theorem dX5_gatherReads_71 : decode cX5_gatherReads 71 = .ok (.iload_n 1, 1) := by decide +kernel
theorem dX5_gatherReads_72 : decode cX5_gatherReads 72 = .ok (.invokestatic 93, 3) := by decide +kernel
theorem dX5_gatherReads_75 : decode cX5_gatherReads 75 = .ok (.aload_n 0, 1) := by decide +kernel
theorem dX5_gatherReads_76 : decode cX5_gatherReads 76 = .ok (.iload_n 1, 1) := by decide +kernel
theorem dX5_gatherReads_77 : decode cX5_gatherReads 77 = .ok (.aload_n 2, 1) := by decide +kernel
theorem dX5_gatherReads_78 : decode cX5_gatherReads 78 = .ok (.invokevirtual 97, 3) := by decide +kernel
theorem dX5_gatherReads_81 : decode cX5_gatherReads 81 = .ok (.iinc 1 1, 3) := by decide +kernel
theorem dX5_gatherReads_84 : decode cX5_gatherReads 84 = .ok (.goto (-82), 3) := by decide +kernel
theorem dX5_gatherReads_87 : decode cX5_gatherReads 87 = .ok (.return_, 1) := by decide +kernel
theorem dX5_release_0 : decode cX5_release 0 = .ok (.iload_n 1, 1) := by decide +kernel
theorem dX5_release_1 : decode cX5_release 1 = .ok (.istore_n 2, 1) := by decide +kernel
theorem dX5_release_2 : decode cX5_release 2 = .ok (.iload_n 2, 1) := by decide +kernel
theorem dX5_release_3 : decode cX5_release 3 = .ok (.aload_n 0, 1) := by decide +kernel
theorem dX5_release_4 : decode cX5_release 4 = .ok (.getfield 55, 3) := by decide +kernel
theorem dX5_release_7 : decode cX5_release 7 = .ok (.if_icmp .ge 95, 3) := by decide +kernel
theorem dX5_release_10 : decode cX5_release 10 = .ok (.iload_n 2, 1) := by decide +kernel
theorem dX5_release_11 : decode cX5_release 11 = .ok (.sipush 288, 3) := by decide +kernel
theorem dX5_release_14 : decode cX5_release 14 = .ok (.if_icmp .ge 88, 3) := by decide +kernel
theorem dX5_release_17 : decode cX5_release 17 = .ok (.iconst 0, 1) := by decide +kernel
theorem dX5_release_18 : decode cX5_release 18 = .ok (.istore_n 3, 1) := by decide +kernel
theorem dX5_release_19 : decode cX5_release 19 = .ok (.iload_n 3, 1) := by decide +kernel
theorem dX5_release_20 : decode cX5_release 20 = .ok (.aload_n 0, 1) := by decide +kernel
theorem dX5_release_21 : decode cX5_release 21 = .ok (.getfield 58, 3) := by decide +kernel
theorem dX5_release_24 : decode cX5_release 24 = .ok (.if_icmp .ge 72, 3) := by decide +kernel
theorem dX5_release_27 : decode cX5_release 27 = .ok (.aload_n 0, 1) := by decide +kernel
theorem dX5_release_28 : decode cX5_release 28 = .ok (.getfield 15, 3) := by decide +kernel
theorem dX5_release_31 : decode cX5_release 31 = .ok (.iload_n 3, 1) := by decide +kernel
theorem dX5_release_32 : decode cX5_release 32 = .ok (.iaload, 1) := by decide +kernel
theorem dX5_release_33 : decode cX5_release 33 = .ok (.istore 4, 2) := by decide +kernel
theorem dX5_release_35 : decode cX5_release 35 = .ok (.aload_n 0, 1) := by decide +kernel
theorem dX5_release_36 : decode cX5_release 36 = .ok (.getfield 33, 3) := by decide +kernel
theorem dX5_release_39 : decode cX5_release 39 = .ok (.iload 4, 2) := by decide +kernel
theorem dX5_release_41 : decode cX5_release 41 = .ok (.iaload, 1) := by decide +kernel
theorem dX5_release_42 : decode cX5_release 42 = .ok (.ifCond .le 48, 3) := by decide +kernel
theorem dX5_release_45 : decode cX5_release 45 = .ok (.aload_n 0, 1) := by decide +kernel
theorem dX5_release_46 : decode cX5_release 46 = .ok (.getfield 23, 3) := by decide +kernel
theorem dX5_release_49 : decode cX5_release 49 = .ok (.iload 4, 2) := by decide +kernel
theorem dX5_release_51 : decode cX5_release 51 = .ok (.aload_n 0, 1) := by decide +kernel
theorem dX5_release_52 : decode cX5_release 52 = .ok (.getfield 36, 3) := by decide +kernel
theorem dX5_release_55 : decode cX5_release 55 = .ok (.iload_n 2, 1) := by decide +kernel
theorem dX5_release_56 : decode cX5_release 56 = .ok (.iaload, 1) := by decide +kernel
theorem dX5_release_57 : decode cX5_release 57 = .ok (.invokestatic 85, 3) := by decide +kernel
theorem dX5_release_60 : decode cX5_release 60 = .ok (.ifCond .eq 30, 3) := by decide +kernel
theorem dX5_release_63 : decode cX5_release 63 = .ok (.aload_n 0, 1) := by decide +kernel
theorem dX5_release_64 : decode cX5_release 64 = .ok (.getfield 33, 3) := by decide +kernel
theorem dX5_release_67 : decode cX5_release 67 = .ok (.iload 4, 2) := by decide +kernel
theorem dX5_release_69 : decode cX5_release 69 = .ok (.dup2, 1) := by decide +kernel
theorem dX5_release_70 : decode cX5_release 70 = .ok (.iaload, 1) := by decide +kernel
theorem dX5_release_71 : decode cX5_release 71 = .ok (.iconst 1, 1) := by decide +kernel
theorem dX5_release_72 : decode cX5_release 72 = .ok (.isub, 1) := by decide +kernel
theorem dX5_release_73 : decode cX5_release 73 = .ok (.iastore, 1) := by decide +kernel
theorem dX5_release_74 : decode cX5_release 74 = .ok (.aload_n 0, 1) := by decide +kernel
theorem dX5_release_75 : decode cX5_release 75 = .ok (.getfield 33, 3) := by decide +kernel
theorem dX5_release_78 : decode cX5_release 78 = .ok (.iload 4, 2) := by decide +kernel
theorem dX5_release_80 : decode cX5_release 80 = .ok (.iaload, 1) := by decide +kernel
theorem dX5_release_81 : decode cX5_release 81 = .ok (.ifCond .ne 9, 3) := by decide +kernel
theorem dX5_release_84 : decode cX5_release 84 = .ok (.aload_n 0, 1) := by decide +kernel
theorem dX5_release_85 : decode cX5_release 85 = .ok (.iload 4, 2) := by decide +kernel
theorem dX5_release_87 : decode cX5_release 87 = .ok (.invokevirtual 65, 3) := by decide +kernel
theorem dX5_release_90 : decode cX5_release 90 = .ok (.iinc 3 1, 3) := by decide +kernel
theorem dX5_release_93 : decode cX5_release 93 = .ok (.goto (-74), 3) := by decide +kernel
theorem dX5_release_96 : decode cX5_release 96 = .ok (.iinc 2 1, 3) := by decide +kernel
theorem dX5_release_99 : decode cX5_release 99 = .ok (.goto (-97), 3) := by decide +kernel
theorem dX5_release_102 : decode cX5_release 102 = .ok (.return_, 1) := by decide +kernel
theorem dX6_init_0 : decode cX6_init 0 = .ok (.aload_n 0, 1) := by decide +kernel
theorem dX6_init_1 : decode cX6_init 1 = .ok (.invokespecial 3, 3) := by decide +kernel
theorem dX6_init_4 : decode cX6_init 4 = .ok (.aload_n 0, 1) := by decide +kernel
theorem dX6_init_5 : decode cX6_init 5 = .ok (.new 9, 3) := by decide +kernel
theorem dX6_init_8 : decode cX6_init 8 = .ok (.dup, 1) := by decide +kernel
theorem dX6_init_9 : decode cX6_init 9 = .ok (.iconst 0, 1) := by decide +kernel
theorem dX6_init_10 : decode cX6_init 10 = .ok (.iconst 0, 1) := by decide +kernel
theorem dX6_init_11 : decode cX6_init 11 = .ok (.aconst_null, 1) := by decide +kernel
theorem dX6_init_12 : decode cX6_init 12 = .ok (.invokespecial 11, 3) := by decide +kernel
theorem dX6_init_15 : decode cX6_init 15 = .ok (.putfield 14, 3) := by decide +kernel
theorem dX6_init_18 : decode cX6_init 18 = .ok (.aload_n 0, 1) := by decide +kernel
theorem dX6_init_19 : decode cX6_init 19 = .ok (.sipush 288, 3) := by decide +kernel
theorem dX6_init_22 : decode cX6_init 22 = .ok (.anewarray 9, 3) := by decide +kernel
theorem dX6_init_25 : decode cX6_init 25 = .ok (.putfield 20, 3) := by decide +kernel
theorem dX6_init_28 : decode cX6_init 28 = .ok (.iconst 0, 1) := by decide +kernel
theorem dX6_init_29 : decode cX6_init 29 = .ok (.istore_n 1, 1) := by decide +kernel
theorem dX6_init_30 : decode cX6_init 30 = .ok (.iload_n 1, 1) := by decide +kernel
theorem dX6_init_31 : decode cX6_init 31 = .ok (.sipush 288, 3) := by decide +kernel
theorem dX6_init_34 : decode cX6_init 34 = .ok (.if_icmp .ge 19, 3) := by decide +kernel
theorem dX6_init_37 : decode cX6_init 37 = .ok (.aload_n 0, 1) := by decide +kernel
theorem dX6_init_38 : decode cX6_init 38 = .ok (.getfield 20, 3) := by decide +kernel
theorem dX6_init_41 : decode cX6_init 41 = .ok (.iload_n 1, 1) := by decide +kernel
theorem dX6_init_42 : decode cX6_init 42 = .ok (.aload_n 0, 1) := by decide +kernel
theorem dX6_init_43 : decode cX6_init 43 = .ok (.getfield 14, 3) := by decide +kernel
theorem dX6_init_46 : decode cX6_init 46 = .ok (.aastore, 1) := by decide +kernel
theorem dX6_init_47 : decode cX6_init 47 = .ok (.iinc 1 1, 3) := by decide +kernel
theorem dX6_init_50 : decode cX6_init 50 = .ok (.goto (-20), 3) := by decide +kernel
theorem dX6_init_53 : decode cX6_init 53 = .ok (.aload_n 0, 1) := by decide +kernel
theorem dX6_init_54 : decode cX6_init 54 = .ok (.sipush 288, 3) := by decide +kernel
theorem dX6_init_57 : decode cX6_init 57 = .ok (.newarray .boolean, 2) := by decide +kernel
theorem dX6_init_59 : decode cX6_init 59 = .ok (.putfield 24, 3) := by decide +kernel
theorem dX6_init_62 : decode cX6_init 62 = .ok (.aload_n 0, 1) := by decide +kernel
theorem dX6_init_63 : decode cX6_init 63 = .ok (.bipush 20, 2) := by decide +kernel
theorem dX6_init_65 : decode cX6_init 65 = .ok (.newarray .int, 2) := by decide +kernel
theorem dX6_init_67 : decode cX6_init 67 = .ok (.putfield 28, 3) := by decide +kernel
theorem dX6_init_70 : decode cX6_init 70 = .ok (.aload_n 0, 1) := by decide +kernel
theorem dX6_init_71 : decode cX6_init 71 = .ok (.bipush 20, 2) := by decide +kernel
theorem dX6_init_73 : decode cX6_init 73 = .ok (.anewarray 9, 3) := by decide +kernel
theorem dX6_init_76 : decode cX6_init 76 = .ok (.putfield 32, 3) := by decide +kernel
theorem dX6_init_79 : decode cX6_init 79 = .ok (.iconst 0, 1) := by decide +kernel
theorem dX6_init_80 : decode cX6_init 80 = .ok (.istore_n 1, 1) := by decide +kernel
theorem dX6_init_81 : decode cX6_init 81 = .ok (.iload_n 1, 1) := by decide +kernel
theorem dX6_init_82 : decode cX6_init 82 = .ok (.bipush 20, 2) := by decide +kernel
theorem dX6_init_84 : decode cX6_init 84 = .ok (.if_icmp .ge 19, 3) := by decide +kernel
theorem dX6_init_87 : decode cX6_init 87 = .ok (.aload_n 0, 1) := by decide +kernel
theorem dX6_init_88 : decode cX6_init 88 = .ok (.getfield 32, 3) := by decide +kernel
theorem dX6_init_91 : decode cX6_init 91 = .ok (.iload_n 1, 1) := by decide +kernel
theorem dX6_init_92 : decode cX6_init 92 = .ok (.aload_n 0, 1) := by decide +kernel
theorem dX6_init_93 : decode cX6_init 93 = .ok (.getfield 14, 3) := by decide +kernel
theorem dX6_init_96 : decode cX6_init 96 = .ok (.aastore, 1) := by decide +kernel
theorem dX6_init_97 : decode cX6_init 97 = .ok (.iinc 1 1, 3) := by decide +kernel
theorem dX6_init_100 : decode cX6_init 100 = .ok (.goto (-19), 3) := by decide +kernel
theorem dX6_init_103 : decode cX6_init 103 = .ok (.aload_n 0, 1) := by decide +kernel
theorem dX6_init_104 : decode cX6_init 104 = .ok (.iconst 0, 1) := by decide +kernel
theorem dX6_init_105 : decode cX6_init 105 = .ok (.putfield 35, 3) := by decide +kernel
theorem dX6_init_108 : decode cX6_init 108 = .ok (.aload_n 0, 1) := by decide +kernel
theorem dX6_init_109 : decode cX6_init 109 = .ok (.iconst 0, 1) := by decide +kernel
theorem dX6_init_110 : decode cX6_init 110 = .ok (.putfield 39, 3) := by decide +kernel
theorem dX6_init_113 : decode cX6_init 113 = .ok (.return_, 1) := by decide +kernel
theorem dX6_at_0 : decode cX6_at 0 = .ok (.iload_n 1, 1) := by decide +kernel
theorem dX6_at_1 : decode cX6_at 1 = .ok (.invokestatic 42, 3) := by decide +kernel
theorem dX6_at_4 : decode cX6_at 4 = .ok (.ifCond .eq 12, 3) := by decide +kernel
theorem dX6_at_7 : decode cX6_at 7 = .ok (.aload_n 0, 1) := by decide +kernel
theorem dX6_at_8 : decode cX6_at 8 = .ok (.getfield 20, 3) := by decide +kernel
theorem dX6_at_11 : decode cX6_at 11 = .ok (.iload_n 1, 1) := by decide +kernel
theorem dX6_at_12 : decode cX6_at 12 = .ok (.aaload, 1) := by decide +kernel
theorem dX6_at_13 : decode cX6_at 13 = .ok (.goto 7, 3) := by decide +kernel
theorem dX6_at_16 : decode cX6_at 16 = .ok (.aload_n 0, 1) := by decide +kernel
theorem dX6_at_17 : decode cX6_at 17 = .ok (.getfield 14, 3) := by decide +kernel
theorem dX6_at_20 : decode cX6_at 20 = .ok (.areturn, 1) := by decide +kernel
theorem dX6_kindAt_0 : decode cX6_kindAt 0 = .ok (.iload_n 1, 1) := by decide +kernel
theorem dX6_kindAt_1 : decode cX6_kindAt 1 = .ok (.invokestatic 42, 3) := by decide +kernel
theorem dX6_kindAt_4 : decode cX6_kindAt 4 = .ok (.ifCond .eq 15, 3) := by decide +kernel
theorem dX6_kindAt_7 : decode cX6_kindAt 7 = .ok (.aload_n 0, 1) := by decide +kernel
theorem dX6_kindAt_8 : decode cX6_kindAt 8 = .ok (.getfield 20, 3) := by decide +kernel
theorem dX6_kindAt_11 : decode cX6_kindAt 11 = .ok (.iload_n 1, 1) := by decide +kernel
theorem dX6_kindAt_12 : decode cX6_kindAt 12 = .ok (.aaload, 1) := by decide +kernel
theorem dX6_kindAt_13 : decode cX6_kindAt 13 = .ok (.getfield 46, 3) := by decide +kernel
theorem dX6_kindAt_16 : decode cX6_kindAt 16 = .ok (.goto 4, 3) := by decide +kernel
theorem dX6_kindAt_19 : decode cX6_kindAt 19 = .ok (.iconst 0, 1) := by decide +kernel
theorem dX6_kindAt_20 : decode cX6_kindAt 20 = .ok (.ireturn, 1) := by decide +kernel
theorem dX6_formulaAt_0 : decode cX6_formulaAt 0 = .ok (.iload_n 1, 1) := by decide +kernel
theorem dX6_formulaAt_1 : decode cX6_formulaAt 1 = .ok (.invokestatic 42, 3) := by decide +kernel
theorem dX6_formulaAt_4 : decode cX6_formulaAt 4 = .ok (.ifCond .eq 15, 3) := by decide +kernel
theorem dX6_formulaAt_7 : decode cX6_formulaAt 7 = .ok (.aload_n 0, 1) := by decide +kernel
theorem dX6_formulaAt_8 : decode cX6_formulaAt 8 = .ok (.getfield 20, 3) := by decide +kernel
theorem dX6_formulaAt_11 : decode cX6_formulaAt 11 = .ok (.iload_n 1, 1) := by decide +kernel
theorem dX6_formulaAt_12 : decode cX6_formulaAt 12 = .ok (.aaload, 1) := by decide +kernel
theorem dX6_formulaAt_13 : decode cX6_formulaAt 13 = .ok (.getfield 49, 3) := by decide +kernel
theorem dX6_formulaAt_16 : decode cX6_formulaAt 16 = .ok (.goto 4, 3) := by decide +kernel
theorem dX6_formulaAt_19 : decode cX6_formulaAt 19 = .ok (.aconst_null, 1) := by decide +kernel
theorem dX6_formulaAt_20 : decode cX6_formulaAt 20 = .ok (.areturn, 1) := by decide +kernel
theorem dX6_copyFor_0 : decode cX6_copyFor 0 = .ok (.aload_n 0, 1) := by decide +kernel
theorem dX6_copyFor_1 : decode cX6_copyFor 1 = .ok (.iload_n 1, 1) := by decide +kernel
theorem dX6_copyFor_2 : decode cX6_copyFor 2 = .ok (.invokevirtual 53, 3) := by decide +kernel
theorem dX6_copyFor_5 : decode cX6_copyFor 5 = .ok (.astore_n 3, 1) := by decide +kernel
theorem dX6_copyFor_6 : decode cX6_copyFor 6 = .ok (.aload_n 3, 1) := by decide +kernel
theorem dX6_copyFor_7 : decode cX6_copyFor 7 = .ok (.iload_n 2, 1) := by decide +kernel
theorem dX6_copyFor_8 : decode cX6_copyFor 8 = .ok (.invokevirtual 57, 3) := by decide +kernel
theorem dX6_copyFor_11 : decode cX6_copyFor 11 = .ok (.ifCond .eq 10, 3) := by decide +kernel
theorem dX6_copyFor_14 : decode cX6_copyFor 14 = .ok (.aload_n 3, 1) := by decide +kernel
theorem dX6_copyFor_15 : decode cX6_copyFor 15 = .ok (.invokevirtual 60, 3) := by decide +kernel
theorem dX6_copyFor_18 : decode cX6_copyFor 18 = .ok (.goto 4, 3) := by decide +kernel
theorem dX6_copyFor_21 : decode cX6_copyFor 21 = .ok (.aconst_null, 1) := by decide +kernel
theorem dX6_copyFor_22 : decode cX6_copyFor 22 = .ok (.areturn, 1) := by decide +kernel
theorem dX6_isKept_0 : decode cX6_isKept 0 = .ok (.iload_n 1, 1) := by decide +kernel
theorem dX6_isKept_1 : decode cX6_isKept 1 = .ok (.invokestatic 42, 3) := by decide +kernel
theorem dX6_isKept_4 : decode cX6_isKept 4 = .ok (.ifCond .eq 16, 3) := by decide +kernel
theorem dX6_isKept_7 : decode cX6_isKept 7 = .ok (.aload_n 0, 1) := by decide +kernel
theorem dX6_isKept_8 : decode cX6_isKept 8 = .ok (.getfield 24, 3) := by decide +kernel
theorem dX6_isKept_11 : decode cX6_isKept 11 = .ok (.iload_n 1, 1) := by decide +kernel
theorem dX6_isKept_12 : decode cX6_isKept 12 = .ok (.baload, 1) := by decide +kernel
theorem dX6_isKept_13 : decode cX6_isKept 13 = .ok (.ifCond .eq 7, 3) := by decide +kernel
theorem dX6_isKept_16 : decode cX6_isKept 16 = .ok (.iconst 1, 1) := by decide +kernel
theorem dX6_isKept_17 : decode cX6_isKept 17 = .ok (.goto 4, 3) := by decide +kernel
theorem dX6_isKept_20 : decode cX6_isKept 20 = .ok (.iconst 0, 1) := by decide +kernel
theorem dX6_isKept_21 : decode cX6_isKept 21 = .ok (.ireturn, 1) := by decide +kernel
theorem dX6_setKept_0 : decode cX6_setKept 0 = .ok (.iload_n 1, 1) := by decide +kernel
theorem dX6_setKept_1 : decode cX6_setKept 1 = .ok (.invokestatic 42, 3) := by decide +kernel
theorem dX6_setKept_4 : decode cX6_setKept 4 = .ok (.ifCond .ne 5, 3) := by decide +kernel
theorem dX6_setKept_7 : decode cX6_setKept 7 = .ok (.iconst 0, 1) := by decide +kernel
theorem dX6_setKept_8 : decode cX6_setKept 8 = .ok (.ireturn, 1) := by decide +kernel
theorem dX6_setKept_9 : decode cX6_setKept 9 = .ok (.aload_n 0, 1) := by decide +kernel
theorem dX6_setKept_10 : decode cX6_setKept 10 = .ok (.getfield 24, 3) := by decide +kernel
theorem dX6_setKept_13 : decode cX6_setKept 13 = .ok (.iload_n 1, 1) := by decide +kernel
theorem dX6_setKept_14 : decode cX6_setKept 14 = .ok (.iload_n 2, 1) := by decide +kernel
theorem dX6_setKept_15 : decode cX6_setKept 15 = .ok (.bastore, 1) := by decide +kernel
theorem dX6_setKept_16 : decode cX6_setKept 16 = .ok (.iconst 1, 1) := by decide +kernel
theorem dX6_setKept_17 : decode cX6_setKept 17 = .ok (.ireturn, 1) := by decide +kernel
theorem dX6_cellsOfKind_0 : decode cX6_cellsOfKind 0 = .ok (.iconst 0, 1) := by decide +kernel
theorem dX6_cellsOfKind_1 : decode cX6_cellsOfKind 1 = .ok (.istore_n 2, 1) := by decide +kernel
theorem dX6_cellsOfKind_2 : decode cX6_cellsOfKind 2 = .ok (.iconst 0, 1) := by decide +kernel
theorem dX6_cellsOfKind_3 : decode cX6_cellsOfKind 3 = .ok (.istore_n 3, 1) := by decide +kernel
theorem dX6_cellsOfKind_4 : decode cX6_cellsOfKind 4 = .ok (.iload_n 3, 1) := by decide +kernel
theorem dX6_cellsOfKind_5 : decode cX6_cellsOfKind 5 = .ok (.sipush 288, 3) := by decide +kernel
theorem dX6_cellsOfKind_8 : decode cX6_cellsOfKind 8 = .ok (.if_icmp .ge 25, 3) := by decide +kernel
theorem dX6_cellsOfKind_11 : decode cX6_cellsOfKind 11 = .ok (.aload_n 0, 1) := by decide +kernel
theorem dX6_cellsOfKind_12 : decode cX6_cellsOfKind 12 = .ok (.getfield 20, 3) := by decide +kernel
theorem dX6_cellsOfKind_15 : decode cX6_cellsOfKind 15 = .ok (.iload_n 3, 1) := by decide +kernel
theorem dX6_cellsOfKind_16 : decode cX6_cellsOfKind 16 = .ok (.aaload, 1) := by decide +kernel
theorem dX6_cellsOfKind_17 : decode cX6_cellsOfKind 17 = .ok (.getfield 46, 3) := by decide +kernel
theorem dX6_cellsOfKind_20 : decode cX6_cellsOfKind 20 = .ok (.iload_n 1, 1) := by decide +kernel
theorem dX6_cellsOfKind_21 : decode cX6_cellsOfKind 21 = .ok (.if_icmp .ne 6, 3) := by decide +kernel
theorem dX6_cellsOfKind_24 : decode cX6_cellsOfKind 24 = .ok (.iinc 2 1, 3) := by decide +kernel
theorem dX6_cellsOfKind_27 : decode cX6_cellsOfKind 27 = .ok (.iinc 3 1, 3) := by decide +kernel
theorem dX6_cellsOfKind_30 : decode cX6_cellsOfKind 30 = .ok (.goto (-26), 3) := by decide +kernel
theorem dX6_cellsOfKind_33 : decode cX6_cellsOfKind 33 = .ok (.iload_n 2, 1) := by decide +kernel
theorem dX6_cellsOfKind_34 : decode cX6_cellsOfKind 34 = .ok (.ireturn, 1) := by decide +kernel
theorem dX6_replace_0 : decode cX6_replace 0 = .ok (.iload_n 1, 1) := by decide +kernel
theorem dX6_replace_1 : decode cX6_replace 1 = .ok (.invokestatic 42, 3) := by decide +kernel
theorem dX6_replace_4 : decode cX6_replace 4 = .ok (.ifCond .eq 20, 3) := by decide +kernel
theorem dX6_replace_7 : decode cX6_replace 7 = .ok (.aload_n 0, 1) := by decide +kernel
theorem dX6_replace_8 : decode cX6_replace 8 = .ok (.getfield 20, 3) := by decide +kernel
theorem dX6_replace_11 : decode cX6_replace 11 = .ok (.iload_n 1, 1) := by decide +kernel
theorem dX6_replace_12 : decode cX6_replace 12 = .ok (.aload_n 2, 1) := by decide +kernel
theorem dX6_replace_13 : decode cX6_replace 13 = .ok (.aastore, 1) := by decide +kernel
theorem dX6_replace_14 : decode cX6_replace 14 = .ok (.aload_n 0, 1) := by decide +kernel
theorem dX6_replace_15 : decode cX6_replace 15 = .ok (.dup, 1) := by decide +kernel
theorem dX6_replace_16 : decode cX6_replace 16 = .ok (.getfield 39, 3) := by decide +kernel
theorem dX6_replace_19 : decode cX6_replace 19 = .ok (.iconst 1, 1) := by decide +kernel
theorem dX6_replace_20 : decode cX6_replace 20 = .ok (.iadd, 1) := by decide +kernel
theorem dX6_replace_21 : decode cX6_replace 21 = .ok (.putfield 39, 3) := by decide +kernel
theorem dX6_replace_24 : decode cX6_replace 24 = .ok (.return_, 1) := by decide +kernel
theorem dX6_put_0 : decode cX6_put 0 = .ok (.aload_n 0, 1) := by decide +kernel
theorem dX6_put_1 : decode cX6_put 1 = .ok (.getfield 35, 3) := by decide +kernel
theorem dX6_put_4 : decode cX6_put 4 = .ok (.bipush 20, 2) := by decide +kernel
theorem dX6_put_6 : decode cX6_put 6 = .ok (.if_icmp .lt 7, 3) := by decide +kernel
theorem dX6_put_9 : decode cX6_put 9 = .ok (.aload_n 0, 1) := by decide +kernel
theorem dX6_put_10 : decode cX6_put 10 = .ok (.invokevirtual 64, 3) := by decide +kernel
theorem dX6_put_13 : decode cX6_put 13 = .ok (.aload_n 0, 1) := by decide +kernel
theorem dX6_put_14 : decode cX6_put 14 = .ok (.getfield 28, 3) := by decide +kernel
theorem dX6_put_17 : decode cX6_put 17 = .ok (.aload_n 0, 1) := by decide +kernel
theorem dX6_put_18 : decode cX6_put 18 = .ok (.getfield 35, 3) := by decide +kernel
theorem dX6_put_21 : decode cX6_put 21 = .ok (.iload_n 1, 1) := by decide +kernel
theorem dX6_put_22 : decode cX6_put 22 = .ok (.iastore, 1) := by decide +kernel
theorem dX6_put_23 : decode cX6_put 23 = .ok (.aload_n 0, 1) := by decide +kernel
theorem dX6_put_24 : decode cX6_put 24 = .ok (.getfield 32, 3) := by decide +kernel
theorem dX6_put_27 : decode cX6_put 27 = .ok (.aload_n 0, 1) := by decide +kernel
theorem dX6_put_28 : decode cX6_put 28 = .ok (.getfield 35, 3) := by decide +kernel
theorem dX6_put_31 : decode cX6_put 31 = .ok (.aload_n 0, 1) := by decide +kernel
theorem dX6_put_32 : decode cX6_put 32 = .ok (.iload_n 1, 1) := by decide +kernel
theorem dX6_put_33 : decode cX6_put 33 = .ok (.invokevirtual 53, 3) := by decide +kernel
theorem dX6_put_36 : decode cX6_put 36 = .ok (.aastore, 1) := by decide +kernel
theorem dX6_put_37 : decode cX6_put 37 = .ok (.aload_n 0, 1) := by decide +kernel
theorem dX6_put_38 : decode cX6_put 38 = .ok (.dup, 1) := by decide +kernel
theorem dX6_put_39 : decode cX6_put 39 = .ok (.getfield 35, 3) := by decide +kernel
theorem dX6_put_42 : decode cX6_put 42 = .ok (.iconst 1, 1) := by decide +kernel
theorem dX6_put_43 : decode cX6_put 43 = .ok (.iadd, 1) := by decide +kernel
theorem dX6_put_44 : decode cX6_put 44 = .ok (.putfield 35, 3) := by decide +kernel
theorem dX6_put_47 : decode cX6_put 47 = .ok (.aload_n 0, 1) := by decide +kernel
theorem dX6_put_48 : decode cX6_put 48 = .ok (.iload_n 1, 1) := by decide +kernel
theorem dX6_put_49 : decode cX6_put 49 = .ok (.aload_n 2, 1) := by decide +kernel
theorem dX6_put_50 : decode cX6_put 50 = .ok (.invokevirtual 67, 3) := by decide +kernel
theorem dX6_put_53 : decode cX6_put 53 = .ok (.return_, 1) := by decide +kernel
theorem dX7_init_0 : decode cX7_init 0 = .ok (.aload_n 0, 1) := by decide +kernel
theorem dX7_init_1 : decode cX7_init 1 = .ok (.invokespecial 3, 3) := by decide +kernel
theorem dX7_init_4 : decode cX7_init 4 = .ok (.aload_n 0, 1) := by decide +kernel
theorem dX7_init_5 : decode cX7_init 5 = .ok (.bipush 120, 2) := by decide +kernel
theorem dX7_init_7 : decode cX7_init 7 = .ok (.newarray .char, 2) := by decide +kernel
theorem dX7_init_9 : decode cX7_init 9 = .ok (.putfield 9, 3) := by decide +kernel
theorem dX7_init_12 : decode cX7_init 12 = .ok (.aload_n 0, 1) := by decide +kernel
theorem dX7_init_13 : decode cX7_init 13 = .ok (.iconst 0, 1) := by decide +kernel
theorem dX7_init_14 : decode cX7_init 14 = .ok (.putfield 15, 3) := by decide +kernel
theorem dX7_init_17 : decode cX7_init 17 = .ok (.aload_n 0, 1) := by decide +kernel
theorem dX7_init_18 : decode cX7_init 18 = .ok (.bipush 121, 2) := by decide +kernel
theorem dX7_init_20 : decode cX7_init 20 = .ok (.newarray .int, 2) := by decide +kernel
theorem dX7_init_22 : decode cX7_init 22 = .ok (.putfield 19, 3) := by decide +kernel
theorem dX7_init_25 : decode cX7_init 25 = .ok (.aload_n 0, 1) := by decide +kernel
theorem dX7_init_26 : decode cX7_init 26 = .ok (.bipush 121, 2) := by decide +kernel
theorem dX7_init_28 : decode cX7_init 28 = .ok (.newarray .int, 2) := by decide +kernel
theorem dX7_init_30 : decode cX7_init 30 = .ok (.putfield 23, 3) := by decide +kernel
theorem dX7_init_33 : decode cX7_init 33 = .ok (.aload_n 0, 1) := by decide +kernel
theorem dX7_init_34 : decode cX7_init 34 = .ok (.bipush 121, 2) := by decide +kernel
theorem dX7_init_36 : decode cX7_init 36 = .ok (.newarray .int, 2) := by decide +kernel
theorem dX7_init_38 : decode cX7_init 38 = .ok (.putfield 26, 3) := by decide +kernel
theorem dX7_init_41 : decode cX7_init 41 = .ok (.aload_n 0, 1) := by decide +kernel
theorem dX7_init_42 : decode cX7_init 42 = .ok (.bipush 120, 2) := by decide +kernel
theorem dX7_init_44 : decode cX7_init 44 = .ok (.newarray .int, 2) := by decide +kernel
theorem dX7_init_46 : decode cX7_init 46 = .ok (.putfield 29, 3) := by decide +kernel
theorem dX7_init_49 : decode cX7_init 49 = .ok (.aload_n 0, 1) := by decide +kernel
theorem dX7_init_50 : decode cX7_init 50 = .ok (.bipush 120, 2) := by decide +kernel
theorem dX7_init_52 : decode cX7_init 52 = .ok (.newarray .int, 2) := by decide +kernel
theorem dX7_init_54 : decode cX7_init 54 = .ok (.putfield 32, 3) := by decide +kernel
theorem dX7_init_57 : decode cX7_init 57 = .ok (.aload_n 0, 1) := by decide +kernel
theorem dX7_init_58 : decode cX7_init 58 = .ok (.bipush 120, 2) := by decide +kernel
theorem dX7_init_60 : decode cX7_init 60 = .ok (.newarray .int, 2) := by decide +kernel
theorem dX7_init_62 : decode cX7_init 62 = .ok (.putfield 35, 3) := by decide +kernel
theorem dX7_init_65 : decode cX7_init 65 = .ok (.return_, 1) := by decide +kernel
theorem dX7_append_0 : decode cX7_append 0 = .ok (.bipush 56, 2) := by decide +kernel
theorem dX7_append_2 : decode cX7_append 2 = .ok (.istore_n 3, 1) := by decide +kernel
theorem dX7_append_3 : decode cX7_append 3 = .ok (.iload_n 3, 1) := by decide +kernel
theorem dX7_append_4 : decode cX7_append 4 = .ok (.ifCond .lt 64, 3) := by decide +kernel
theorem dX7_append_7 : decode cX7_append 7 = .ok (.lload_n 1, 1) := by decide +kernel
theorem dX7_append_8 : decode cX7_append 8 = .ok (.iload_n 3, 1) := by decide +kernel
theorem dX7_append_9 : decode cX7_append 9 = .ok (.lushr, 1) := by decide +kernel
theorem dX7_append_10 : decode cX7_append 10 = .ok (.l2i, 1) := by decide +kernel
theorem dX7_append_11 : decode cX7_append 11 = .ok (.sipush 255, 3) := by decide +kernel
theorem dX7_append_14 : decode cX7_append 14 = .ok (.iand, 1) := by decide +kernel
theorem dX7_append_15 : decode cX7_append 15 = .ok (.istore 4, 2) := by decide +kernel
theorem dX7_append_17 : decode cX7_append 17 = .ok (.iload 4, 2) := by decide +kernel
theorem dX7_append_19 : decode cX7_append 19 = .ok (.bipush 32, 2) := by decide +kernel
theorem dX7_append_21 : decode cX7_append 21 = .ok (.if_icmp .lt 41, 3) := by decide +kernel
theorem dX7_append_24 : decode cX7_append 24 = .ok (.iload 4, 2) := by decide +kernel
theorem dX7_append_26 : decode cX7_append 26 = .ok (.bipush 126, 2) := by decide +kernel
theorem dX7_append_28 : decode cX7_append 28 = .ok (.if_icmp .gt 34, 3) := by decide +kernel
theorem dX7_append_31 : decode cX7_append 31 = .ok (.aload_n 0, 1) := by decide +kernel
theorem dX7_append_32 : decode cX7_append 32 = .ok (.getfield 15, 3) := by decide +kernel
theorem dX7_append_35 : decode cX7_append 35 = .ok (.bipush 120, 2) := by decide +kernel
theorem dX7_append_37 : decode cX7_append 37 = .ok (.if_icmp .ge 25, 3) := by decide +kernel
theorem dX7_append_40 : decode cX7_append 40 = .ok (.aload_n 0, 1) := by decide +kernel
theorem dX7_append_41 : decode cX7_append 41 = .ok (.getfield 9, 3) := by decide +kernel
theorem dX7_append_44 : decode cX7_append 44 = .ok (.aload_n 0, 1) := by decide +kernel
theorem dX7_append_45 : decode cX7_append 45 = .ok (.getfield 15, 3) := by decide +kernel
theorem dX7_append_48 : decode cX7_append 48 = .ok (.iload 4, 2) := by decide +kernel
theorem dX7_append_50 : decode cX7_append 50 = .ok (.i2c, 1) := by decide +kernel
theorem dX7_append_51 : decode cX7_append 51 = .ok (.castore, 1) := by decide +kernel
theorem dX7_append_52 : decode cX7_append 52 = .ok (.aload_n 0, 1) := by decide +kernel
theorem dX7_append_53 : decode cX7_append 53 = .ok (.dup, 1) := by decide +kernel
theorem dX7_append_54 : decode cX7_append 54 = .ok (.getfield 15, 3) := by decide +kernel
theorem dX7_append_57 : decode cX7_append 57 = .ok (.iconst 1, 1) := by decide +kernel
theorem dX7_append_58 : decode cX7_append 58 = .ok (.iadd, 1) := by decide +kernel
theorem dX7_append_59 : decode cX7_append 59 = .ok (.putfield 15, 3) := by decide +kernel
theorem dX7_append_62 : decode cX7_append 62 = .ok (.iinc 3 (-8), 3) := by decide +kernel
theorem dX7_append_65 : decode cX7_append 65 = .ok (.goto (-62), 3) := by decide +kernel
theorem dX7_append_68 : decode cX7_append 68 = .ok (.return_, 1) := by decide +kernel
theorem dX7_read_0 : decode cX7_read 0 = .ok (.aload_n 0, 1) := by decide +kernel
theorem dX7_read_1 : decode cX7_read 1 = .ok (.iload_n 1, 1) := by decide +kernel
theorem dX7_read_2 : decode cX7_read 2 = .ok (.putfield 38, 3) := by decide +kernel
theorem dX7_read_5 : decode cX7_read 5 = .ok (.aload_n 0, 1) := by decide +kernel
theorem dX7_read_6 : decode cX7_read 6 = .ok (.iconst 0, 1) := by decide +kernel
theorem dX7_read_7 : decode cX7_read 7 = .ok (.putfield 41, 3) := by decide +kernel
theorem dX7_read_10 : decode cX7_read 10 = .ok (.aload_n 0, 1) := by decide +kernel
theorem dX7_read_11 : decode cX7_read 11 = .ok (.iconst 0, 1) := by decide +kernel
theorem dX7_read_12 : decode cX7_read 12 = .ok (.putfield 44, 3) := by decide +kernel
theorem dX7_read_15 : decode cX7_read 15 = .ok (.aload_n 0, 1) := by decide +kernel
theorem dX7_read_16 : decode cX7_read 16 = .ok (.invokevirtual 47, 3) := by decide +kernel
theorem dX7_read_19 : decode cX7_read 19 = .ok (.aload_n 0, 1) := by decide +kernel
theorem dX7_read_20 : decode cX7_read 20 = .ok (.iconst 0, 1) := by decide +kernel
theorem dX7_read_21 : decode cX7_read 21 = .ok (.putfield 50, 3) := by decide +kernel
theorem dX7_read_24 : decode cX7_read 24 = .ok (.aload_n 0, 1) := by decide +kernel
theorem dX7_read_25 : decode cX7_read 25 = .ok (.iconst 0, 1) := by decide +kernel
theorem dX7_read_26 : decode cX7_read 26 = .ok (.invokevirtual 53, 3) := by decide +kernel
theorem dX7_read_29 : decode cX7_read 29 = .ok (.ifCond .ne 5, 3) := by decide +kernel
theorem dX7_read_32 : decode cX7_read 32 = .ok (.aconst_null, 1) := by decide +kernel
theorem dX7_read_33 : decode cX7_read 33 = .ok (.areturn, 1) := by decide +kernel
theorem dX7_read_34 : decode cX7_read 34 = .ok (.aload_n 0, 1) := by decide +kernel
theorem dX7_read_35 : decode cX7_read 35 = .ok (.invokevirtual 57, 3) := by decide +kernel
theorem dX7_read_38 : decode cX7_read 38 = .ok (.ifCond .eq 11, 3) := by decide +kernel
theorem dX7_read_41 : decode cX7_read 41 = .ok (.aload_n 0, 1) := by decide +kernel
theorem dX7_read_42 : decode cX7_read 42 = .ok (.iconst 1, 1) := by decide +kernel
theorem dX7_read_43 : decode cX7_read 43 = .ok (.invokevirtual 61, 3) := by decide +kernel
theorem dX7_read_46 : decode cX7_read 46 = .ok (.pop, 1) := by decide +kernel
theorem dX7_read_47 : decode cX7_read 47 = .ok (.aconst_null, 1) := by decide +kernel
theorem dX7_read_48 : decode cX7_read 48 = .ok (.areturn, 1) := by decide +kernel
theorem dX7_read_49 : decode cX7_read 49 = .ok (.new 64, 3) := by decide +kernel
theorem dX7_read_52 : decode cX7_read 52 = .ok (.dup, 1) := by decide +kernel
theorem dX7_read_53 : decode cX7_read 53 = .ok (.aload_n 0, 1) := by decide +kernel
theorem dX7_read_54 : decode cX7_read 54 = .ok (.getfield 29, 3) := by decide +kernel
theorem dX7_read_57 : decode cX7_read 57 = .ok (.aload_n 0, 1) := by decide +kernel
theorem dX7_read_58 : decode cX7_read 58 = .ok (.getfield 32, 3) := by decide +kernel
theorem dX7_read_61 : decode cX7_read 61 = .ok (.aload_n 0, 1) := by decide +kernel
theorem dX7_read_62 : decode cX7_read 62 = .ok (.getfield 35, 3) := by decide +kernel
theorem dX7_read_65 : decode cX7_read 65 = .ok (.aload_n 0, 1) := by decide +kernel
theorem dX7_read_66 : decode cX7_read 66 = .ok (.getfield 41, 3) := by decide +kernel
theorem dX7_read_69 : decode cX7_read 69 = .ok (.invokespecial 66, 3) := by decide +kernel
theorem dX7_read_72 : decode cX7_read 72 = .ok (.areturn, 1) := by decide +kernel
theorem dX7_findTokens_0 : decode cX7_findTokens 0 = .ok (.aload_n 0, 1) := by decide +kernel
theorem dX7_findTokens_1 : decode cX7_findTokens 1 = .ok (.iconst 0, 1) := by decide +kernel
theorem dX7_findTokens_2 : decode cX7_findTokens 2 = .ok (.putfield 69, 3) := by decide +kernel
theorem dX7_findTokens_5 : decode cX7_findTokens 5 = .ok (.iconst 0, 1) := by decide +kernel
theorem dX7_findTokens_6 : decode cX7_findTokens 6 = .ok (.istore_n 1, 1) := by decide +kernel
theorem dX7_findTokens_7 : decode cX7_findTokens 7 = .ok (.iconst 0, 1) := by decide +kernel
theorem dX7_findTokens_8 : decode cX7_findTokens 8 = .ok (.istore_n 2, 1) := by decide +kernel
theorem dX7_findTokens_9 : decode cX7_findTokens 9 = .ok (.iload_n 2, 1) := by decide +kernel
theorem dX7_findTokens_10 : decode cX7_findTokens 10 = .ok (.aload_n 0, 1) := by decide +kernel
theorem dX7_findTokens_11 : decode cX7_findTokens 11 = .ok (.getfield 15, 3) := by decide +kernel
theorem dX7_findTokens_14 : decode cX7_findTokens 14 = .ok (.if_icmp .ge 43, 3) := by decide +kernel
theorem dX7_findTokens_17 : decode cX7_findTokens 17 = .ok (.iload_n 2, 1) := by decide +kernel
theorem dX7_findTokens_18 : decode cX7_findTokens 18 = .ok (.iconst 1, 1) := by decide +kernel
theorem dX7_findTokens_19 : decode cX7_findTokens 19 = .ok (.iadd, 1) := by decide +kernel
theorem dX7_findTokens_20 : decode cX7_findTokens 20 = .ok (.aload_n 0, 1) := by decide +kernel
theorem dX7_findTokens_21 : decode cX7_findTokens 21 = .ok (.iload_n 2, 1) := by decide +kernel
theorem dX7_findTokens_22 : decode cX7_findTokens 22 = .ok (.invokevirtual 72, 3) := by decide +kernel
theorem dX7_findTokens_25 : decode cX7_findTokens 25 = .ok (.invokestatic 76, 3) := by decide +kernel
theorem dX7_findTokens_28 : decode cX7_findTokens 28 = .ok (.istore_n 1, 1) := by decide +kernel
theorem dX7_findTokens_29 : decode cX7_findTokens 29 = .ok (.aload_n 0, 1) := by decide +kernel
theorem dX7_findTokens_30 : decode cX7_findTokens 30 = .ok (.getfield 9, 3) := by decide +kernel
theorem dX7_findTokens_33 : decode cX7_findTokens 33 = .ok (.iload_n 2, 1) := by decide +kernel
theorem dX7_findTokens_34 : decode cX7_findTokens 34 = .ok (.caload, 1) := by decide +kernel
theorem dX7_findTokens_35 : decode cX7_findTokens 35 = .ok (.bipush 32, 2) := by decide +kernel
theorem dX7_findTokens_37 : decode cX7_findTokens 37 = .ok (.if_icmp .eq 15, 3) := by decide +kernel
theorem dX7_findTokens_40 : decode cX7_findTokens 40 = .ok (.aload_n 0, 1) := by decide +kernel
theorem dX7_findTokens_41 : decode cX7_findTokens 41 = .ok (.aload_n 0, 1) := by decide +kernel
theorem dX7_findTokens_42 : decode cX7_findTokens 42 = .ok (.iload_n 2, 1) := by decide +kernel
theorem dX7_findTokens_43 : decode cX7_findTokens 43 = .ok (.iload_n 1, 1) := by decide +kernel
theorem dX7_findTokens_44 : decode cX7_findTokens 44 = .ok (.invokevirtual 82, 3) := by decide +kernel
theorem dX7_findTokens_47 : decode cX7_findTokens 47 = .ok (.iload_n 2, 1) := by decide +kernel
theorem dX7_findTokens_48 : decode cX7_findTokens 48 = .ok (.iload_n 1, 1) := by decide +kernel
theorem dX7_findTokens_49 : decode cX7_findTokens 49 = .ok (.invokevirtual 85, 3) := by decide +kernel
theorem dX7_findTokens_52 : decode cX7_findTokens 52 = .ok (.iload_n 1, 1) := by decide +kernel
theorem dX7_findTokens_53 : decode cX7_findTokens 53 = .ok (.istore_n 2, 1) := by decide +kernel
theorem dX7_findTokens_54 : decode cX7_findTokens 54 = .ok (.goto (-45), 3) := by decide +kernel
theorem dX7_findTokens_57 : decode cX7_findTokens 57 = .ok (.aload_n 0, 1) := by decide +kernel
theorem dX7_findTokens_58 : decode cX7_findTokens 58 = .ok (.iconst 0, 1) := by decide +kernel
theorem dX7_findTokens_59 : decode cX7_findTokens 59 = .ok (.aload_n 0, 1) := by decide +kernel
theorem dX7_findTokens_60 : decode cX7_findTokens 60 = .ok (.getfield 15, 3) := by decide +kernel
theorem dX7_findTokens_63 : decode cX7_findTokens 63 = .ok (.aload_n 0, 1) := by decide +kernel
theorem dX7_findTokens_64 : decode cX7_findTokens 64 = .ok (.getfield 15, 3) := by decide +kernel
theorem dX7_findTokens_67 : decode cX7_findTokens 67 = .ok (.invokevirtual 85, 3) := by decide +kernel
theorem dX7_findTokens_70 : decode cX7_findTokens 70 = .ok (.return_, 1) := by decide +kernel
theorem dX7_addToken_0 : decode cX7_addToken 0 = .ok (.aload_n 0, 1) := by decide +kernel
theorem dX7_addToken_1 : decode cX7_addToken 1 = .ok (.getfield 69, 3) := by decide +kernel
theorem dX7_addToken_4 : decode cX7_addToken 4 = .ok (.bipush 120, 2) := by decide +kernel
theorem dX7_addToken_6 : decode cX7_addToken 6 = .ok (.if_icmp .gt 73, 3) := by decide +kernel
theorem dX7_addToken_9 : decode cX7_addToken 9 = .ok (.aload_n 0, 1) := by decide +kernel
theorem dX7_addToken_10 : decode cX7_addToken 10 = .ok (.getfield 19, 3) := by decide +kernel
theorem dX7_addToken_13 : decode cX7_addToken 13 = .ok (.aload_n 0, 1) := by decide +kernel
theorem dX7_addToken_14 : decode cX7_addToken 14 = .ok (.getfield 69, 3) := by decide +kernel
theorem dX7_addToken_17 : decode cX7_addToken 17 = .ok (.iload_n 1, 1) := by decide +kernel
theorem dX7_addToken_18 : decode cX7_addToken 18 = .ok (.iastore, 1) := by decide +kernel
theorem dX7_addToken_19 : decode cX7_addToken 19 = .ok (.aload_n 0, 1) := by decide +kernel
theorem dX7_addToken_20 : decode cX7_addToken 20 = .ok (.getfield 26, 3) := by decide +kernel
theorem dX7_addToken_23 : decode cX7_addToken 23 = .ok (.aload_n 0, 1) := by decide +kernel
theorem dX7_addToken_24 : decode cX7_addToken 24 = .ok (.getfield 69, 3) := by decide +kernel
theorem dX7_addToken_27 : decode cX7_addToken 27 = .ok (.iload_n 2, 1) := by decide +kernel
theorem dX7_addToken_28 : decode cX7_addToken 28 = .ok (.iastore, 1) := by decide +kernel
theorem dX7_addToken_29 : decode cX7_addToken 29 = .ok (.aload_n 0, 1) := by decide +kernel
theorem dX7_addToken_30 : decode cX7_addToken 30 = .ok (.getfield 23, 3) := by decide +kernel
theorem dX7_addToken_33 : decode cX7_addToken 33 = .ok (.aload_n 0, 1) := by decide +kernel
theorem dX7_addToken_34 : decode cX7_addToken 34 = .ok (.getfield 69, 3) := by decide +kernel
theorem dX7_addToken_37 : decode cX7_addToken 37 = .ok (.iload_n 1, 1) := by decide +kernel
theorem dX7_addToken_38 : decode cX7_addToken 38 = .ok (.bipush 119, 2) := by decide +kernel
theorem dX7_addToken_40 : decode cX7_addToken 40 = .ok (.if_icmp .ne 12, 3) := by decide +kernel
theorem dX7_addToken_43 : decode cX7_addToken 43 = .ok (.aload_n 0, 1) := by decide +kernel
theorem dX7_addToken_44 : decode cX7_addToken 44 = .ok (.iload_n 2, 1) := by decide +kernel
theorem dX7_addToken_45 : decode cX7_addToken 45 = .ok (.iload_n 3, 1) := by decide +kernel
theorem dX7_addToken_46 : decode cX7_addToken 46 = .ok (.invokevirtual 103, 3) := by decide +kernel
theorem dX7_addToken_49 : decode cX7_addToken 49 = .ok (.goto 19, 3) := by decide +kernel
theorem dX7_addToken_52 : decode cX7_addToken 52 = .ok (.iload_n 1, 1) := by decide +kernel
theorem dX7_addToken_53 : decode cX7_addToken 53 = .ok (.bipush 110, 2) := by decide +kernel
theorem dX7_addToken_55 : decode cX7_addToken 55 = .ok (.if_icmp .ne 12, 3) := by decide +kernel
theorem dX7_addToken_58 : decode cX7_addToken 58 = .ok (.aload_n 0, 1) := by decide +kernel
theorem dX7_addToken_59 : decode cX7_addToken 59 = .ok (.iload_n 2, 1) := by decide +kernel
theorem dX7_addToken_60 : decode cX7_addToken 60 = .ok (.iload_n 3, 1) := by decide +kernel
theorem dX7_addToken_61 : decode cX7_addToken 61 = .ok (.invokevirtual 106, 3) := by decide +kernel
theorem dX7_addToken_64 : decode cX7_addToken 64 = .ok (.goto 4, 3) := by decide +kernel
theorem dX7_addToken_67 : decode cX7_addToken 67 = .ok (.iconst 0, 1) := by decide +kernel
theorem dX7_addToken_68 : decode cX7_addToken 68 = .ok (.iastore, 1) := by decide +kernel
theorem dX7_addToken_69 : decode cX7_addToken 69 = .ok (.aload_n 0, 1) := by decide +kernel
theorem dX7_addToken_70 : decode cX7_addToken 70 = .ok (.dup, 1) := by decide +kernel
theorem dX7_addToken_71 : decode cX7_addToken 71 = .ok (.getfield 69, 3) := by decide +kernel
theorem dX7_addToken_74 : decode cX7_addToken 74 = .ok (.iconst 1, 1) := by decide +kernel
theorem dX7_addToken_75 : decode cX7_addToken 75 = .ok (.iadd, 1) := by decide +kernel
theorem dX7_addToken_76 : decode cX7_addToken 76 = .ok (.putfield 69, 3) := by decide +kernel
theorem dX7_addToken_79 : decode cX7_addToken 79 = .ok (.return_, 1) := by decide +kernel
theorem dX7_kind_0 : decode cX7_kind 0 = .ok (.aload_n 0, 1) := by decide +kernel
theorem dX7_kind_1 : decode cX7_kind 1 = .ok (.getfield 50, 3) := by decide +kernel
theorem dX7_kind_4 : decode cX7_kind 4 = .ok (.ifCond .lt 26, 3) := by decide +kernel
theorem dX7_kind_7 : decode cX7_kind 7 = .ok (.aload_n 0, 1) := by decide +kernel
theorem dX7_kind_8 : decode cX7_kind 8 = .ok (.getfield 50, 3) := by decide +kernel
theorem dX7_kind_11 : decode cX7_kind 11 = .ok (.aload_n 0, 1) := by decide +kernel
theorem dX7_kind_12 : decode cX7_kind 12 = .ok (.getfield 69, 3) := by decide +kernel
theorem dX7_kind_15 : decode cX7_kind 15 = .ok (.if_icmp .ge 15, 3) := by decide +kernel
theorem dX7_kind_18 : decode cX7_kind 18 = .ok (.aload_n 0, 1) := by decide +kernel
theorem dX7_kind_19 : decode cX7_kind 19 = .ok (.getfield 19, 3) := by decide +kernel
theorem dX7_kind_22 : decode cX7_kind 22 = .ok (.aload_n 0, 1) := by decide +kernel
theorem dX7_kind_23 : decode cX7_kind 23 = .ok (.getfield 50, 3) := by decide +kernel
theorem dX7_kind_26 : decode cX7_kind 26 = .ok (.iaload, 1) := by decide +kernel
theorem dX7_kind_27 : decode cX7_kind 27 = .ok (.goto 4, 3) := by decide +kernel
theorem dX7_kind_30 : decode cX7_kind 30 = .ok (.iconst 0, 1) := by decide +kernel
theorem dX7_kind_31 : decode cX7_kind 31 = .ok (.ireturn, 1) := by decide +kernel
theorem dX7_wrong_0 : decode cX7_wrong 0 = .ok (.aload_n 0, 1) := by decide +kernel
theorem dX7_wrong_1 : decode cX7_wrong 1 = .ok (.getfield 50, 3) := by decide +kernel
theorem dX7_wrong_4 : decode cX7_wrong 4 = .ok (.ifCond .lt 26, 3) := by decide +kernel
theorem dX7_wrong_7 : decode cX7_wrong 7 = .ok (.aload_n 0, 1) := by decide +kernel
theorem dX7_wrong_8 : decode cX7_wrong 8 = .ok (.getfield 50, 3) := by decide +kernel
theorem dX7_wrong_11 : decode cX7_wrong 11 = .ok (.aload_n 0, 1) := by decide +kernel
theorem dX7_wrong_12 : decode cX7_wrong 12 = .ok (.getfield 69, 3) := by decide +kernel
theorem dX7_wrong_15 : decode cX7_wrong 15 = .ok (.if_icmp .ge 15, 3) := by decide +kernel
theorem dX7_wrong_18 : decode cX7_wrong 18 = .ok (.aload_n 0, 1) := by decide +kernel
theorem dX7_wrong_19 : decode cX7_wrong 19 = .ok (.getfield 26, 3) := by decide +kernel
theorem dX7_wrong_22 : decode cX7_wrong 22 = .ok (.aload_n 0, 1) := by decide +kernel
theorem dX7_wrong_23 : decode cX7_wrong 23 = .ok (.getfield 50, 3) := by decide +kernel
theorem dX7_wrong_26 : decode cX7_wrong 26 = .ok (.iaload, 1) := by decide +kernel
theorem dX7_wrong_27 : decode cX7_wrong 27 = .ok (.goto 7, 3) := by decide +kernel
theorem dX7_wrong_30 : decode cX7_wrong 30 = .ok (.aload_n 0, 1) := by decide +kernel
theorem dX7_wrong_31 : decode cX7_wrong 31 = .ok (.getfield 15, 3) := by decide +kernel
theorem dX7_wrong_34 : decode cX7_wrong 34 = .ok (.istore_n 2, 1) := by decide +kernel
theorem dX7_wrong_35 : decode cX7_wrong 35 = .ok (.aload_n 0, 1) := by decide +kernel
theorem dX7_wrong_36 : decode cX7_wrong 36 = .ok (.iload_n 1, 1) := by decide +kernel
theorem dX7_wrong_37 : decode cX7_wrong 37 = .ok (.bipush 16, 2) := by decide +kernel
theorem dX7_wrong_39 : decode cX7_wrong 39 = .ok (.iload_n 2, 1) := by decide +kernel
theorem dX7_wrong_40 : decode cX7_wrong 40 = .ok (.imul, 1) := by decide +kernel
theorem dX7_wrong_41 : decode cX7_wrong 41 = .ok (.iadd, 1) := by decide +kernel
theorem dX7_wrong_42 : decode cX7_wrong 42 = .ok (.putfield 44, 3) := by decide +kernel
theorem dX7_wrong_45 : decode cX7_wrong 45 = .ok (.iconst 0, 1) := by decide +kernel
theorem dX7_wrong_46 : decode cX7_wrong 46 = .ok (.ireturn, 1) := by decide +kernel
theorem dX7_sum_0 : decode cX7_sum 0 = .ok (.aload_n 0, 1) := by decide +kernel
theorem dX7_sum_1 : decode cX7_sum 1 = .ok (.iload_n 1, 1) := by decide +kernel
theorem dX7_sum_2 : decode cX7_sum 2 = .ok (.invokevirtual 109, 3) := by decide +kernel
theorem dX7_sum_5 : decode cX7_sum 5 = .ok (.ifCond .ne 5, 3) := by decide +kernel
theorem dX7_sum_8 : decode cX7_sum 8 = .ok (.iconst 0, 1) := by decide +kernel
theorem dX7_sum_9 : decode cX7_sum 9 = .ok (.ireturn, 1) := by decide +kernel
theorem dX7_sum_10 : decode cX7_sum 10 = .ok (.iconst 0, 1) := by decide +kernel
theorem dX7_sum_11 : decode cX7_sum 11 = .ok (.istore_n 2, 1) := by decide +kernel
theorem dX7_sum_12 : decode cX7_sum 12 = .ok (.iload_n 2, 1) := by decide +kernel
theorem dX7_sum_13 : decode cX7_sum 13 = .ok (.bipush 120, 2) := by decide +kernel
theorem dX7_sum_15 : decode cX7_sum 15 = .ok (.if_icmp .ge 70, 3) := by decide +kernel
theorem dX7_sum_18 : decode cX7_sum 18 = .ok (.aload_n 0, 1) := by decide +kernel
theorem dX7_sum_19 : decode cX7_sum 19 = .ok (.invokevirtual 57, 3) := by decide +kernel
theorem dX7_sum_22 : decode cX7_sum 22 = .ok (.bipush 43, 2) := by decide +kernel
theorem dX7_sum_24 : decode cX7_sum 24 = .ok (.if_icmp .eq 12, 3) := by decide +kernel
theorem dX7_sum_27 : decode cX7_sum 27 = .ok (.aload_n 0, 1) := by decide +kernel
theorem dX7_sum_28 : decode cX7_sum 28 = .ok (.invokevirtual 57, 3) := by decide +kernel
theorem dX7_sum_31 : decode cX7_sum 31 = .ok (.bipush 45, 2) := by decide +kernel
theorem dX7_sum_33 : decode cX7_sum 33 = .ok (.if_icmp .ne 52, 3) := by decide +kernel
theorem dX7_sum_36 : decode cX7_sum 36 = .ok (.aload_n 0, 1) := by decide +kernel
theorem dX7_sum_37 : decode cX7_sum 37 = .ok (.invokevirtual 57, 3) := by decide +kernel
theorem dX7_sum_40 : decode cX7_sum 40 = .ok (.bipush 43, 2) := by decide +kernel
theorem dX7_sum_42 : decode cX7_sum 42 = .ok (.if_icmp .ne 7, 3) := by decide +kernel
theorem dX7_sum_45 : decode cX7_sum 45 = .ok (.iconst 5, 1) := by decide +kernel
theorem dX7_sum_46 : decode cX7_sum 46 = .ok (.goto 5, 3) := by decide +kernel
theorem dX7_sum_49 : decode cX7_sum 49 = .ok (.bipush 6, 2) := by decide +kernel
theorem dX7_sum_51 : decode cX7_sum 51 = .ok (.istore_n 3, 1) := by decide +kernel
theorem dX7_sum_52 : decode cX7_sum 52 = .ok (.aload_n 0, 1) := by decide +kernel
theorem dX7_sum_53 : decode cX7_sum 53 = .ok (.dup, 1) := by decide +kernel
theorem dX7_sum_54 : decode cX7_sum 54 = .ok (.getfield 50, 3) := by decide +kernel
theorem dX7_sum_57 : decode cX7_sum 57 = .ok (.iconst 1, 1) := by decide +kernel
theorem dX7_sum_58 : decode cX7_sum 58 = .ok (.iadd, 1) := by decide +kernel
theorem dX7_sum_59 : decode cX7_sum 59 = .ok (.putfield 50, 3) := by decide +kernel
theorem dX7_sum_62 : decode cX7_sum 62 = .ok (.aload_n 0, 1) := by decide +kernel
theorem dX7_sum_63 : decode cX7_sum 63 = .ok (.iload_n 1, 1) := by decide +kernel
theorem dX7_sum_64 : decode cX7_sum 64 = .ok (.invokevirtual 109, 3) := by decide +kernel
theorem dX7_sum_67 : decode cX7_sum 67 = .ok (.ifCond .ne 5, 3) := by decide +kernel
theorem dX7_sum_70 : decode cX7_sum 70 = .ok (.iconst 0, 1) := by decide +kernel
theorem dX7_sum_71 : decode cX7_sum 71 = .ok (.ireturn, 1) := by decide +kernel
theorem dX7_sum_72 : decode cX7_sum 72 = .ok (.aload_n 0, 1) := by decide +kernel
theorem dX7_sum_73 : decode cX7_sum 73 = .ok (.iload_n 3, 1) := by decide +kernel
theorem dX7_sum_74 : decode cX7_sum 74 = .ok (.iconst 0, 1) := by decide +kernel
theorem dX7_sum_75 : decode cX7_sum 75 = .ok (.iconst 0, 1) := by decide +kernel
theorem dX7_sum_76 : decode cX7_sum 76 = .ok (.invokevirtual 112, 3) := by decide +kernel
theorem dX7_sum_79 : decode cX7_sum 79 = .ok (.iinc 2 1, 3) := by decide +kernel
theorem dX7_sum_82 : decode cX7_sum 82 = .ok (.goto (-70), 3) := by decide +kernel
theorem dX7_sum_85 : decode cX7_sum 85 = .ok (.iconst 1, 1) := by decide +kernel
theorem dX7_sum_86 : decode cX7_sum 86 = .ok (.ireturn, 1) := by decide +kernel
theorem dX7_product_0 : decode cX7_product 0 = .ok (.aload_n 0, 1) := by decide +kernel
theorem dX7_product_1 : decode cX7_product 1 = .ok (.iload_n 1, 1) := by decide +kernel
theorem dX7_product_2 : decode cX7_product 2 = .ok (.invokevirtual 115, 3) := by decide +kernel
theorem dX7_product_5 : decode cX7_product 5 = .ok (.ifCond .ne 5, 3) := by decide +kernel
theorem dX7_product_8 : decode cX7_product 8 = .ok (.iconst 0, 1) := by decide +kernel
theorem dX7_product_9 : decode cX7_product 9 = .ok (.ireturn, 1) := by decide +kernel
theorem dX7_product_10 : decode cX7_product 10 = .ok (.iconst 0, 1) := by decide +kernel
theorem dX7_product_11 : decode cX7_product 11 = .ok (.istore_n 2, 1) := by decide +kernel
theorem dX7_product_12 : decode cX7_product 12 = .ok (.iload_n 2, 1) := by decide +kernel
theorem dX7_product_13 : decode cX7_product 13 = .ok (.bipush 120, 2) := by decide +kernel
theorem dX7_product_15 : decode cX7_product 15 = .ok (.if_icmp .ge 71, 3) := by decide +kernel
theorem dX7_product_18 : decode cX7_product 18 = .ok (.aload_n 0, 1) := by decide +kernel
theorem dX7_product_19 : decode cX7_product 19 = .ok (.invokevirtual 57, 3) := by decide +kernel
theorem dX7_product_22 : decode cX7_product 22 = .ok (.bipush 42, 2) := by decide +kernel
theorem dX7_product_24 : decode cX7_product 24 = .ok (.if_icmp .eq 12, 3) := by decide +kernel
theorem dX7_product_27 : decode cX7_product 27 = .ok (.aload_n 0, 1) := by decide +kernel
theorem dX7_product_28 : decode cX7_product 28 = .ok (.invokevirtual 57, 3) := by decide +kernel
theorem dX7_product_31 : decode cX7_product 31 = .ok (.bipush 47, 2) := by decide +kernel
theorem dX7_product_33 : decode cX7_product 33 = .ok (.if_icmp .ne 53, 3) := by decide +kernel
theorem dX7_product_36 : decode cX7_product 36 = .ok (.aload_n 0, 1) := by decide +kernel
theorem dX7_product_37 : decode cX7_product 37 = .ok (.invokevirtual 57, 3) := by decide +kernel
theorem dX7_product_40 : decode cX7_product 40 = .ok (.bipush 42, 2) := by decide +kernel
theorem dX7_product_42 : decode cX7_product 42 = .ok (.if_icmp .ne 8, 3) := by decide +kernel
theorem dX7_product_45 : decode cX7_product 45 = .ok (.bipush 7, 2) := by decide +kernel
theorem dX7_product_47 : decode cX7_product 47 = .ok (.goto 5, 3) := by decide +kernel
theorem dX7_product_50 : decode cX7_product 50 = .ok (.bipush 8, 2) := by decide +kernel
theorem dX7_product_52 : decode cX7_product 52 = .ok (.istore_n 3, 1) := by decide +kernel
theorem dX7_product_53 : decode cX7_product 53 = .ok (.aload_n 0, 1) := by decide +kernel
theorem dX7_product_54 : decode cX7_product 54 = .ok (.dup, 1) := by decide +kernel
theorem dX7_product_55 : decode cX7_product 55 = .ok (.getfield 50, 3) := by decide +kernel
theorem dX7_product_58 : decode cX7_product 58 = .ok (.iconst 1, 1) := by decide +kernel
theorem dX7_product_59 : decode cX7_product 59 = .ok (.iadd, 1) := by decide +kernel
theorem dX7_product_60 : decode cX7_product 60 = .ok (.putfield 50, 3) := by decide +kernel
theorem dX7_product_63 : decode cX7_product 63 = .ok (.aload_n 0, 1) := by decide +kernel
theorem dX7_product_64 : decode cX7_product 64 = .ok (.iload_n 1, 1) := by decide +kernel
theorem dX7_product_65 : decode cX7_product 65 = .ok (.invokevirtual 115, 3) := by decide +kernel
theorem dX7_product_68 : decode cX7_product 68 = .ok (.ifCond .ne 5, 3) := by decide +kernel
theorem dX7_product_71 : decode cX7_product 71 = .ok (.iconst 0, 1) := by decide +kernel
theorem dX7_product_72 : decode cX7_product 72 = .ok (.ireturn, 1) := by decide +kernel
theorem dX7_product_73 : decode cX7_product 73 = .ok (.aload_n 0, 1) := by decide +kernel
theorem dX7_product_74 : decode cX7_product 74 = .ok (.iload_n 3, 1) := by decide +kernel
theorem dX7_product_75 : decode cX7_product 75 = .ok (.iconst 0, 1) := by decide +kernel
theorem dX7_product_76 : decode cX7_product 76 = .ok (.iconst 0, 1) := by decide +kernel
theorem dX7_product_77 : decode cX7_product 77 = .ok (.invokevirtual 112, 3) := by decide +kernel
theorem dX7_product_80 : decode cX7_product 80 = .ok (.iinc 2 1, 3) := by decide +kernel
theorem dX7_product_83 : decode cX7_product 83 = .ok (.goto (-71), 3) := by decide +kernel
theorem dX7_product_86 : decode cX7_product 86 = .ok (.iconst 1, 1) := by decide +kernel
theorem dX7_product_87 : decode cX7_product 87 = .ok (.ireturn, 1) := by decide +kernel
theorem dX7_part_0 : decode cX7_part 0 = .ok (.aload_n 0, 1) := by decide +kernel
theorem dX7_part_1 : decode cX7_part 1 = .ok (.invokevirtual 118, 3) := by decide +kernel
theorem dX7_part_4 : decode cX7_part 4 = .ok (.ifCond .ne 9, 3) := by decide +kernel
theorem dX7_part_7 : decode cX7_part 7 = .ok (.aload_n 0, 1) := by decide +kernel
theorem dX7_part_8 : decode cX7_part 8 = .ok (.iconst 1, 1) := by decide +kernel
theorem dX7_part_9 : decode cX7_part 9 = .ok (.invokevirtual 61, 3) := by decide +kernel
theorem dX7_part_12 : decode cX7_part 12 = .ok (.ireturn, 1) := by decide +kernel
theorem dX7_part_13 : decode cX7_part 13 = .ok (.iload_n 1, 1) := by decide +kernel
theorem dX7_part_14 : decode cX7_part 14 = .ok (.bipush 8, 2) := by decide +kernel
theorem dX7_part_16 : decode cX7_part 16 = .ok (.if_icmp .lt 9, 3) := by decide +kernel
theorem dX7_part_19 : decode cX7_part 19 = .ok (.aload_n 0, 1) := by decide +kernel
theorem dX7_part_20 : decode cX7_part 20 = .ok (.iconst 5, 1) := by decide +kernel
theorem dX7_part_21 : decode cX7_part 21 = .ok (.invokevirtual 61, 3) := by decide +kernel
theorem dX7_part_24 : decode cX7_part 24 = .ok (.ireturn, 1) := by decide +kernel
theorem dX7_part_25 : decode cX7_part 25 = .ok (.aload_n 0, 1) := by decide +kernel
theorem dX7_part_26 : decode cX7_part 26 = .ok (.invokevirtual 57, 3) := by decide +kernel
theorem dX7_part_29 : decode cX7_part 29 = .ok (.lookupswitch 69 #[(40, 35), (45, 41), (110, 47)], 35) := by decide +kernel
theorem dX7_part_64 : decode cX7_part 64 = .ok (.aload_n 0, 1) := by decide +kernel
theorem dX7_part_65 : decode cX7_part 65 = .ok (.iload_n 1, 1) := by decide +kernel
theorem dX7_part_66 : decode cX7_part 66 = .ok (.invokevirtual 122, 3) := by decide +kernel
theorem dX7_part_69 : decode cX7_part 69 = .ok (.ireturn, 1) := by decide +kernel
theorem dX7_part_70 : decode cX7_part 70 = .ok (.aload_n 0, 1) := by decide +kernel
theorem dX7_part_71 : decode cX7_part 71 = .ok (.iload_n 1, 1) := by decide +kernel
theorem dX7_part_72 : decode cX7_part 72 = .ok (.invokevirtual 125, 3) := by decide +kernel
theorem dX7_part_75 : decode cX7_part 75 = .ok (.ireturn, 1) := by decide +kernel
theorem dX7_part_76 : decode cX7_part 76 = .ok (.aload_n 0, 1) := by decide +kernel
theorem dX7_part_77 : decode cX7_part 77 = .ok (.iconst 0, 1) := by decide +kernel
theorem dX7_part_78 : decode cX7_part 78 = .ok (.aload_n 0, 1) := by decide +kernel
theorem dX7_part_79 : decode cX7_part 79 = .ok (.invokevirtual 128, 3) := by decide +kernel
theorem dX7_part_82 : decode cX7_part 82 = .ok (.iconst 0, 1) := by decide +kernel
theorem dX7_part_83 : decode cX7_part 83 = .ok (.invokevirtual 112, 3) := by decide +kernel
theorem dX7_part_86 : decode cX7_part 86 = .ok (.aload_n 0, 1) := by decide +kernel
theorem dX7_part_87 : decode cX7_part 87 = .ok (.dup, 1) := by decide +kernel
theorem dX7_part_88 : decode cX7_part 88 = .ok (.getfield 50, 3) := by decide +kernel
theorem dX7_part_91 : decode cX7_part 91 = .ok (.iconst 1, 1) := by decide +kernel
theorem dX7_part_92 : decode cX7_part 92 = .ok (.iadd, 1) := by decide +kernel
theorem dX7_part_93 : decode cX7_part 93 = .ok (.putfield 50, 3) := by decide +kernel
theorem dX7_part_96 : decode cX7_part 96 = .ok (.iconst 1, 1) := by decide +kernel
theorem dX7_part_97 : decode cX7_part 97 = .ok (.ireturn, 1) := by decide +kernel
theorem dX7_part_98 : decode cX7_part 98 = .ok (.aload_n 0, 1) := by decide +kernel
theorem dX7_part_99 : decode cX7_part 99 = .ok (.invokevirtual 57, 3) := by decide +kernel
theorem dX7_part_102 : decode cX7_part 102 = .ok (.bipush 119, 2) := by decide +kernel
theorem dX7_part_104 : decode cX7_part 104 = .ok (.if_icmp .ne 19, 3) := by decide +kernel
theorem dX7_part_107 : decode cX7_part 107 = .ok (.aload_n 0, 1) := by decide +kernel
theorem dX7_part_108 : decode cX7_part 108 = .ok (.invokevirtual 128, 3) := by decide +kernel
theorem dX7_part_111 : decode cX7_part 111 = .ok (.bipush 26, 2) := by decide +kernel
theorem dX7_part_113 : decode cX7_part 113 = .ok (.if_icmp .ne 10, 3) := by decide +kernel
theorem dX7_part_116 : decode cX7_part 116 = .ok (.aload_n 0, 1) := by decide +kernel
theorem dX7_part_117 : decode cX7_part 117 = .ok (.invokevirtual 131, 3) := by decide +kernel
theorem dX7_part_120 : decode cX7_part 120 = .ok (.goto 7, 3) := by decide +kernel
theorem dX7_part_123 : decode cX7_part 123 = .ok (.aload_n 0, 1) := by decide +kernel
theorem dX7_part_124 : decode cX7_part 124 = .ok (.invokevirtual 134, 3) := by decide +kernel
theorem dX7_part_127 : decode cX7_part 127 = .ok (.ireturn, 1) := by decide +kernel
theorem dX7_startsPart_0 : decode cX7_startsPart 0 = .ok (.aload_n 0, 1) := by decide +kernel
theorem dX7_startsPart_1 : decode cX7_startsPart 1 = .ok (.invokevirtual 57, 3) := by decide +kernel
theorem dX7_startsPart_4 : decode cX7_startsPart 4 = .ok (.bipush 119, 2) := by decide +kernel
theorem dX7_startsPart_6 : decode cX7_startsPart 6 = .ok (.if_icmp .ne 27, 3) := by decide +kernel
theorem dX7_startsPart_9 : decode cX7_startsPart 9 = .ok (.aload_n 0, 1) := by decide +kernel
theorem dX7_startsPart_10 : decode cX7_startsPart 10 = .ok (.invokevirtual 128, 3) := by decide +kernel
theorem dX7_startsPart_13 : decode cX7_startsPart 13 = .ok (.bipush 12, 2) := by decide +kernel
theorem dX7_startsPart_15 : decode cX7_startsPart 15 = .ok (.if_icmp .lt 12, 3) := by decide +kernel
theorem dX7_startsPart_18 : decode cX7_startsPart 18 = .ok (.aload_n 0, 1) := by decide +kernel
theorem dX7_startsPart_19 : decode cX7_startsPart 19 = .ok (.invokevirtual 128, 3) := by decide +kernel
theorem dX7_startsPart_22 : decode cX7_startsPart 22 = .ok (.bipush 26, 2) := by decide +kernel
theorem dX7_startsPart_24 : decode cX7_startsPart 24 = .ok (.if_icmp .ne 7, 3) := by decide +kernel
theorem dX7_startsPart_27 : decode cX7_startsPart 27 = .ok (.iconst 1, 1) := by decide +kernel
theorem dX7_startsPart_28 : decode cX7_startsPart 28 = .ok (.goto 4, 3) := by decide +kernel
theorem dX7_startsPart_31 : decode cX7_startsPart 31 = .ok (.iconst 0, 1) := by decide +kernel
theorem dX7_startsPart_32 : decode cX7_startsPart 32 = .ok (.ireturn, 1) := by decide +kernel
theorem dX7_startsPart_33 : decode cX7_startsPart 33 = .ok (.aload_n 0, 1) := by decide +kernel
theorem dX7_startsPart_34 : decode cX7_startsPart 34 = .ok (.invokevirtual 57, 3) := by decide +kernel
theorem dX7_startsPart_37 : decode cX7_startsPart 37 = .ok (.bipush 110, 2) := by decide +kernel
theorem dX7_startsPart_39 : decode cX7_startsPart 39 = .ok (.if_icmp .eq 30, 3) := by decide +kernel
theorem dX7_startsPart_42 : decode cX7_startsPart 42 = .ok (.aload_n 0, 1) := by decide +kernel
theorem dX7_startsPart_43 : decode cX7_startsPart 43 = .ok (.invokevirtual 57, 3) := by decide +kernel
theorem dX7_startsPart_46 : decode cX7_startsPart 46 = .ok (.bipush 40, 2) := by decide +kernel
theorem dX7_startsPart_48 : decode cX7_startsPart 48 = .ok (.if_icmp .eq 21, 3) := by decide +kernel
theorem dX7_startsPart_51 : decode cX7_startsPart 51 = .ok (.aload_n 0, 1) := by decide +kernel
theorem dX7_startsPart_52 : decode cX7_startsPart 52 = .ok (.invokevirtual 57, 3) := by decide +kernel
theorem dX7_startsPart_55 : decode cX7_startsPart 55 = .ok (.bipush 45, 2) := by decide +kernel
theorem dX7_startsPart_57 : decode cX7_startsPart 57 = .ok (.if_icmp .eq 12, 3) := by decide +kernel
theorem dX7_startsPart_60 : decode cX7_startsPart 60 = .ok (.aload_n 0, 1) := by decide +kernel
theorem dX7_startsPart_61 : decode cX7_startsPart 61 = .ok (.invokevirtual 57, 3) := by decide +kernel
theorem dX7_startsPart_64 : decode cX7_startsPart 64 = .ok (.bipush 36, 2) := by decide +kernel
theorem dX7_startsPart_66 : decode cX7_startsPart 66 = .ok (.if_icmp .ne 7, 3) := by decide +kernel
theorem dX7_startsPart_69 : decode cX7_startsPart 69 = .ok (.iconst 1, 1) := by decide +kernel
theorem dX7_startsPart_70 : decode cX7_startsPart 70 = .ok (.goto 4, 3) := by decide +kernel
theorem dX7_startsPart_73 : decode cX7_startsPart 73 = .ok (.iconst 0, 1) := by decide +kernel
theorem dX7_startsPart_74 : decode cX7_startsPart 74 = .ok (.ireturn, 1) := by decide +kernel
