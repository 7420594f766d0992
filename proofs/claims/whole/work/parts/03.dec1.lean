theorem dX0_above_0 : decode cX0_above 0 = .ok (.iload_n 0, 1) := by decide +kernel
theorem dX0_above_1 : decode cX0_above 1 = .ok (.tableswitch 47 1 6 #[39, 39, 39, 41, 43, 45], 39) := by decide +kernel
theorem dX0_above_40 : decode cX0_above 40 = .ok (.iconst 0, 1) := by decide +kernel
theorem dX0_above_41 : decode cX0_above 41 = .ok (.ireturn, 1) := by decide +kernel
theorem dX0_above_42 : decode cX0_above 42 = .ok (.iconst 1, 1) := by decide +kernel
theorem dX0_above_43 : decode cX0_above 43 = .ok (.ireturn, 1) := by decide +kernel
theorem dX0_above_44 : decode cX0_above 44 = .ok (.iconst 2, 1) := by decide +kernel
theorem dX0_above_45 : decode cX0_above 45 = .ok (.ireturn, 1) := by decide +kernel
theorem dX0_above_46 : decode cX0_above 46 = .ok (.iconst 3, 1) := by decide +kernel
theorem dX0_above_47 : decode cX0_above 47 = .ok (.ireturn, 1) := by decide +kernel
theorem dX0_above_48 : decode cX0_above 48 = .ok (.iconst (-1), 1) := by decide +kernel
theorem dX0_above_49 : decode cX0_above 49 = .ok (.ireturn, 1) := by decide +kernel
theorem dX0_isUnder_0 : decode cX0_isUnder 0 = .ok (.iload_n 0, 1) := by decide +kernel
theorem dX0_isUnder_1 : decode cX0_isUnder 1 = .ok (.istore_n 2, 1) := by decide +kernel
theorem dX0_isUnder_2 : decode cX0_isUnder 2 = .ok (.iconst 0, 1) := by decide +kernel
theorem dX0_isUnder_3 : decode cX0_isUnder 3 = .ok (.istore_n 3, 1) := by decide +kernel
theorem dX0_isUnder_4 : decode cX0_isUnder 4 = .ok (.iload_n 3, 1) := by decide +kernel
theorem dX0_isUnder_5 : decode cX0_isUnder 5 = .ok (.bipush 7, 2) := by decide +kernel
theorem dX0_isUnder_7 : decode cX0_isUnder 7 = .ok (.if_icmp .ge 25, 3) := by decide +kernel
theorem dX0_isUnder_10 : decode cX0_isUnder 10 = .ok (.iload_n 2, 1) := by decide +kernel
theorem dX0_isUnder_11 : decode cX0_isUnder 11 = .ok (.ifCond .lt 21, 3) := by decide +kernel
theorem dX0_isUnder_14 : decode cX0_isUnder 14 = .ok (.iload_n 2, 1) := by decide +kernel
theorem dX0_isUnder_15 : decode cX0_isUnder 15 = .ok (.iload_n 1, 1) := by decide +kernel
theorem dX0_isUnder_16 : decode cX0_isUnder 16 = .ok (.if_icmp .ne 5, 3) := by decide +kernel
theorem dX0_isUnder_19 : decode cX0_isUnder 19 = .ok (.iconst 1, 1) := by decide +kernel
theorem dX0_isUnder_20 : decode cX0_isUnder 20 = .ok (.ireturn, 1) := by decide +kernel
theorem dX0_isUnder_21 : decode cX0_isUnder 21 = .ok (.iload_n 2, 1) := by decide +kernel
theorem dX0_isUnder_22 : decode cX0_isUnder 22 = .ok (.invokestatic 9, 3) := by decide +kernel
theorem dX0_isUnder_25 : decode cX0_isUnder 25 = .ok (.istore_n 2, 1) := by decide +kernel
theorem dX0_isUnder_26 : decode cX0_isUnder 26 = .ok (.iinc 3 1, 3) := by decide +kernel
theorem dX0_isUnder_29 : decode cX0_isUnder 29 = .ok (.goto (-25), 3) := by decide +kernel
theorem dX0_isUnder_32 : decode cX0_isUnder 32 = .ok (.iconst 0, 1) := by decide +kernel
theorem dX0_isUnder_33 : decode cX0_isUnder 33 = .ok (.ireturn, 1) := by decide +kernel
theorem dX0_dips_0 : decode cX0_dips 0 = .ok (.iload_n 0, 1) := by decide +kernel
theorem dX0_dips_1 : decode cX0_dips 1 = .ok (.tableswitch 70 1 6 #[39, 41, 45, 58, 62, 45], 39) := by decide +kernel
theorem dX0_dips_40 : decode cX0_dips 40 = .ok (.iconst 3, 1) := by decide +kernel
theorem dX0_dips_41 : decode cX0_dips 41 = .ok (.ireturn, 1) := by decide +kernel
theorem dX0_dips_42 : decode cX0_dips 42 = .ok (.iload_n 2, 1) := by decide +kernel
theorem dX0_dips_43 : decode cX0_dips 43 = .ok (.iconst 3, 1) := by decide +kernel
theorem dX0_dips_44 : decode cX0_dips 44 = .ok (.idiv, 1) := by decide +kernel
theorem dX0_dips_45 : decode cX0_dips 45 = .ok (.ireturn, 1) := by decide +kernel
theorem dX0_dips_46 : decode cX0_dips 46 = .ok (.iload_n 2, 1) := by decide +kernel
theorem dX0_dips_47 : decode cX0_dips 47 = .ok (.bipush 30, 2) := by decide +kernel
theorem dX0_dips_49 : decode cX0_dips 49 = .ok (.if_icmp .le 8, 3) := by decide +kernel
theorem dX0_dips_52 : decode cX0_dips 52 = .ok (.bipush 10, 2) := by decide +kernel
theorem dX0_dips_54 : decode cX0_dips 54 = .ok (.goto 4, 3) := by decide +kernel
theorem dX0_dips_57 : decode cX0_dips 57 = .ok (.iconst 5, 1) := by decide +kernel
theorem dX0_dips_58 : decode cX0_dips 58 = .ok (.ireturn, 1) := by decide +kernel
theorem dX0_dips_59 : decode cX0_dips 59 = .ok (.iconst 3, 1) := by decide +kernel
theorem dX0_dips_60 : decode cX0_dips 60 = .ok (.iload_n 1, 1) := by decide +kernel
theorem dX0_dips_61 : decode cX0_dips 61 = .ok (.iadd, 1) := by decide +kernel
theorem dX0_dips_62 : decode cX0_dips 62 = .ok (.ireturn, 1) := by decide +kernel
theorem dX0_dips_63 : decode cX0_dips 63 = .ok (.iload_n 2, 1) := by decide +kernel
theorem dX0_dips_64 : decode cX0_dips 64 = .ok (.iconst 3, 1) := by decide +kernel
theorem dX0_dips_65 : decode cX0_dips 65 = .ok (.idiv, 1) := by decide +kernel
theorem dX0_dips_66 : decode cX0_dips 66 = .ok (.iload_n 1, 1) := by decide +kernel
theorem dX0_dips_67 : decode cX0_dips 67 = .ok (.iconst 3, 1) := by decide +kernel
theorem dX0_dips_68 : decode cX0_dips 68 = .ok (.irem, 1) := by decide +kernel
theorem dX0_dips_69 : decode cX0_dips 69 = .ok (.iadd, 1) := by decide +kernel
theorem dX0_dips_70 : decode cX0_dips 70 = .ok (.ireturn, 1) := by decide +kernel
theorem dX0_dips_71 : decode cX0_dips 71 = .ok (.iconst 5, 1) := by decide +kernel
theorem dX0_dips_72 : decode cX0_dips 72 = .ok (.ireturn, 1) := by decide +kernel
theorem dX0_goes_0 : decode cX0_goes 0 = .ok (.iload_n 0, 1) := by decide +kernel
theorem dX0_goes_1 : decode cX0_goes 1 = .ok (.tableswitch 94 1 6 #[39, 59, 71, 39, 59, 76], 39) := by decide +kernel
theorem dX0_goes_40 : decode cX0_goes 40 = .ok (.iload_n 2, 1) := by decide +kernel
theorem dX0_goes_41 : decode cX0_goes 41 = .ok (.iconst 1, 1) := by decide +kernel
theorem dX0_goes_42 : decode cX0_goes 42 = .ok (.if_icmp .ne 7, 3) := by decide +kernel
theorem dX0_goes_45 : decode cX0_goes 45 = .ok (.iconst 3, 1) := by decide +kernel
theorem dX0_goes_46 : decode cX0_goes 46 = .ok (.goto 13, 3) := by decide +kernel
theorem dX0_goes_49 : decode cX0_goes 49 = .ok (.iload_n 2, 1) := by decide +kernel
theorem dX0_goes_50 : decode cX0_goes 50 = .ok (.iconst 3, 1) := by decide +kernel
theorem dX0_goes_51 : decode cX0_goes 51 = .ok (.if_icmp .ne 7, 3) := by decide +kernel
theorem dX0_goes_54 : decode cX0_goes 54 = .ok (.iconst 1, 1) := by decide +kernel
theorem dX0_goes_55 : decode cX0_goes 55 = .ok (.goto 4, 3) := by decide +kernel
theorem dX0_goes_58 : decode cX0_goes 58 = .ok (.iload_n 2, 1) := by decide +kernel
theorem dX0_goes_59 : decode cX0_goes 59 = .ok (.ireturn, 1) := by decide +kernel
theorem dX0_goes_60 : decode cX0_goes 60 = .ok (.iload_n 3, 1) := by decide +kernel
theorem dX0_goes_61 : decode cX0_goes 61 = .ok (.iconst 2, 1) := by decide +kernel
theorem dX0_goes_62 : decode cX0_goes 62 = .ok (.irem, 1) := by decide +kernel
theorem dX0_goes_63 : decode cX0_goes 63 = .ok (.ifCond .eq 7, 3) := by decide +kernel
theorem dX0_goes_66 : decode cX0_goes 66 = .ok (.iconst 0, 1) := by decide +kernel
theorem dX0_goes_67 : decode cX0_goes 67 = .ok (.goto 4, 3) := by decide +kernel
theorem dX0_goes_70 : decode cX0_goes 70 = .ok (.iload_n 2, 1) := by decide +kernel
theorem dX0_goes_71 : decode cX0_goes 71 = .ok (.ireturn, 1) := by decide +kernel
theorem dX0_goes_72 : decode cX0_goes 72 = .ok (.iload_n 2, 1) := by decide +kernel
theorem dX0_goes_73 : decode cX0_goes 73 = .ok (.invokestatic 15, 3) := by decide +kernel
theorem dX0_goes_76 : decode cX0_goes 76 = .ok (.ireturn, 1) := by decide +kernel
theorem dX0_goes_77 : decode cX0_goes 77 = .ok (.iload_n 2, 1) := by decide +kernel
theorem dX0_goes_78 : decode cX0_goes 78 = .ok (.invokestatic 15, 3) := by decide +kernel
theorem dX0_goes_81 : decode cX0_goes 81 = .ok (.ifCond .eq 10, 3) := by decide +kernel
theorem dX0_goes_84 : decode cX0_goes 84 = .ok (.iload_n 2, 1) := by decide +kernel
theorem dX0_goes_85 : decode cX0_goes 85 = .ok (.invokestatic 15, 3) := by decide +kernel
theorem dX0_goes_88 : decode cX0_goes 88 = .ok (.goto 6, 3) := by decide +kernel
theorem dX0_goes_91 : decode cX0_goes 91 = .ok (.iload_n 1, 1) := by decide +kernel
theorem dX0_goes_92 : decode cX0_goes 92 = .ok (.iconst 5, 1) := by decide +kernel
theorem dX0_goes_93 : decode cX0_goes 93 = .ok (.irem, 1) := by decide +kernel
theorem dX0_goes_94 : decode cX0_goes 94 = .ok (.ireturn, 1) := by decide +kernel
theorem dX0_goes_95 : decode cX0_goes 95 = .ok (.iload_n 2, 1) := by decide +kernel
theorem dX0_goes_96 : decode cX0_goes 96 = .ok (.ireturn, 1) := by decide +kernel
theorem dX0_turned_0 : decode cX0_turned 0 = .ok (.iload_n 0, 1) := by decide +kernel
theorem dX0_turned_1 : decode cX0_turned 1 = .ok (.ifCond .ne 7, 3) := by decide +kernel
theorem dX0_turned_4 : decode cX0_turned 4 = .ok (.iconst 0, 1) := by decide +kernel
theorem dX0_turned_5 : decode cX0_turned 5 = .ok (.goto 15, 3) := by decide +kernel
theorem dX0_turned_8 : decode cX0_turned 8 = .ok (.iload_n 0, 1) := by decide +kernel
theorem dX0_turned_9 : decode cX0_turned 9 = .ok (.iconst 4, 1) := by decide +kernel
theorem dX0_turned_10 : decode cX0_turned 10 = .ok (.if_icmp .ne 7, 3) := by decide +kernel
theorem dX0_turned_13 : decode cX0_turned 13 = .ok (.iconst 1, 1) := by decide +kernel
theorem dX0_turned_14 : decode cX0_turned 14 = .ok (.goto 6, 3) := by decide +kernel
theorem dX0_turned_17 : decode cX0_turned 17 = .ok (.iload_n 0, 1) := by decide +kernel
theorem dX0_turned_18 : decode cX0_turned 18 = .ok (.iconst 1, 1) := by decide +kernel
theorem dX0_turned_19 : decode cX0_turned 19 = .ok (.iadd, 1) := by decide +kernel
theorem dX0_turned_20 : decode cX0_turned 20 = .ok (.ireturn, 1) := by decide +kernel
theorem dX0_leaks_0 : decode cX0_leaks 0 = .ok (.iload_n 0, 1) := by decide +kernel
theorem dX0_leaks_1 : decode cX0_leaks 1 = .ok (.tableswitch 53 1 6 #[39, 41, 53, 43, 49, 51], 39) := by decide +kernel
theorem dX0_leaks_40 : decode cX0_leaks 40 = .ok (.iconst 2, 1) := by decide +kernel
theorem dX0_leaks_41 : decode cX0_leaks 41 = .ok (.ireturn, 1) := by decide +kernel
theorem dX0_leaks_42 : decode cX0_leaks 42 = .ok (.iconst 0, 1) := by decide +kernel
theorem dX0_leaks_43 : decode cX0_leaks 43 = .ok (.ireturn, 1) := by decide +kernel
theorem dX0_leaks_44 : decode cX0_leaks 44 = .ok (.iconst 2, 1) := by decide +kernel
theorem dX0_leaks_45 : decode cX0_leaks 45 = .ok (.iload_n 1, 1) := by decide +kernel
theorem dX0_leaks_46 : decode cX0_leaks 46 = .ok (.iconst 3, 1) := by decide +kernel
theorem dX0_leaks_47 : decode cX0_leaks 47 = .ok (.idiv, 1) := by decide +kernel
theorem dX0_leaks_48 : decode cX0_leaks 48 = .ok (.iadd, 1) := by decide +kernel
theorem dX0_leaks_49 : decode cX0_leaks 49 = .ok (.ireturn, 1) := by decide +kernel
theorem dX0_leaks_50 : decode cX0_leaks 50 = .ok (.iconst 1, 1) := by decide +kernel
theorem dX0_leaks_51 : decode cX0_leaks 51 = .ok (.ireturn, 1) := by decide +kernel
theorem dX0_leaks_52 : decode cX0_leaks 52 = .ok (.iconst 2, 1) := by decide +kernel
theorem dX0_leaks_53 : decode cX0_leaks 53 = .ok (.ireturn, 1) := by decide +kernel
theorem dX0_leaks_54 : decode cX0_leaks 54 = .ok (.iconst 1, 1) := by decide +kernel
theorem dX0_leaks_55 : decode cX0_leaks 55 = .ok (.ireturn, 1) := by decide +kernel
theorem dX1_init_0 : decode cX1_init 0 = .ok (.aload_n 0, 1) := by decide +kernel
theorem dX1_init_1 : decode cX1_init 1 = .ok (.invokespecial 1, 3) := by decide +kernel
theorem dX1_init_4 : decode cX1_init 4 = .ok (.aload_n 0, 1) := by decide +kernel
theorem dX1_init_5 : decode cX1_init 5 = .ok (.new 7, 3) := by decide +kernel
theorem dX1_init_8 : decode cX1_init 8 = .ok (.dup, 1) := by decide +kernel
theorem dX1_init_9 : decode cX1_init 9 = .ok (.invokespecial 9, 3) := by decide +kernel
theorem dX1_init_12 : decode cX1_init 12 = .ok (.putfield 10, 3) := by decide +kernel
theorem dX1_init_15 : decode cX1_init 15 = .ok (.aload_n 0, 1) := by decide +kernel
theorem dX1_init_16 : decode cX1_init 16 = .ok (.new 7, 3) := by decide +kernel
theorem dX1_init_19 : decode cX1_init 19 = .ok (.dup, 1) := by decide +kernel
theorem dX1_init_20 : decode cX1_init 20 = .ok (.invokespecial 9, 3) := by decide +kernel
theorem dX1_init_23 : decode cX1_init 23 = .ok (.putfield 16, 3) := by decide +kernel
theorem dX1_init_26 : decode cX1_init 26 = .ok (.return_, 1) := by decide +kernel
theorem dX1_ofUse_0 : decode cX1_ofUse 0 = .ok (.iload_n 1, 1) := by decide +kernel
theorem dX1_ofUse_1 : decode cX1_ofUse 1 = .ok (.ifCond .ne 10, 3) := by decide +kernel
theorem dX1_ofUse_4 : decode cX1_ofUse 4 = .ok (.aload_n 0, 1) := by decide +kernel
theorem dX1_ofUse_5 : decode cX1_ofUse 5 = .ok (.getfield 10, 3) := by decide +kernel
theorem dX1_ofUse_8 : decode cX1_ofUse 8 = .ok (.goto 7, 3) := by decide +kernel
theorem dX1_ofUse_11 : decode cX1_ofUse 11 = .ok (.aload_n 0, 1) := by decide +kernel
theorem dX1_ofUse_12 : decode cX1_ofUse 12 = .ok (.getfield 16, 3) := by decide +kernel
theorem dX1_ofUse_15 : decode cX1_ofUse 15 = .ok (.areturn, 1) := by decide +kernel
theorem dX1_copyFrom_0 : decode cX1_copyFrom 0 = .ok (.aload_n 0, 1) := by decide +kernel
theorem dX1_copyFrom_1 : decode cX1_copyFrom 1 = .ok (.getfield 10, 3) := by decide +kernel
theorem dX1_copyFrom_4 : decode cX1_copyFrom 4 = .ok (.aload_n 1, 1) := by decide +kernel
theorem dX1_copyFrom_5 : decode cX1_copyFrom 5 = .ok (.getfield 10, 3) := by decide +kernel
theorem dX1_copyFrom_8 : decode cX1_copyFrom 8 = .ok (.invokevirtual 19, 3) := by decide +kernel
theorem dX1_copyFrom_11 : decode cX1_copyFrom 11 = .ok (.aload_n 0, 1) := by decide +kernel
theorem dX1_copyFrom_12 : decode cX1_copyFrom 12 = .ok (.getfield 16, 3) := by decide +kernel
theorem dX1_copyFrom_15 : decode cX1_copyFrom 15 = .ok (.aload_n 1, 1) := by decide +kernel
theorem dX1_copyFrom_16 : decode cX1_copyFrom 16 = .ok (.getfield 16, 3) := by decide +kernel
theorem dX1_copyFrom_19 : decode cX1_copyFrom 19 = .ok (.invokevirtual 19, 3) := by decide +kernel
theorem dX1_copyFrom_22 : decode cX1_copyFrom 22 = .ok (.return_, 1) := by decide +kernel
theorem dX1_settles_0 : decode cX1_settles 0 = .ok (.aload_n 0, 1) := by decide +kernel
theorem dX1_settles_1 : decode cX1_settles 1 = .ok (.getfield 10, 3) := by decide +kernel
theorem dX1_settles_4 : decode cX1_settles 4 = .ok (.invokevirtual 23, 3) := by decide +kernel
theorem dX1_settles_7 : decode cX1_settles 7 = .ok (.ifCond .eq 7, 3) := by decide +kernel
theorem dX1_settles_10 : decode cX1_settles 10 = .ok (.iload_n 2, 1) := by decide +kernel
theorem dX1_settles_11 : decode cX1_settles 11 = .ok (.goto 13, 3) := by decide +kernel
theorem dX1_settles_14 : decode cX1_settles 14 = .ok (.aload_n 0, 1) := by decide +kernel
theorem dX1_settles_15 : decode cX1_settles 15 = .ok (.getfield 10, 3) := by decide +kernel
theorem dX1_settles_18 : decode cX1_settles 18 = .ok (.iload_n 1, 1) := by decide +kernel
theorem dX1_settles_19 : decode cX1_settles 19 = .ok (.iload_n 2, 1) := by decide +kernel
theorem dX1_settles_20 : decode cX1_settles 20 = .ok (.iload_n 3, 1) := by decide +kernel
theorem dX1_settles_21 : decode cX1_settles 21 = .ok (.invokevirtual 27, 3) := by decide +kernel
theorem dX1_settles_24 : decode cX1_settles 24 = .ok (.invokestatic 31, 3) := by decide +kernel
theorem dX1_settles_27 : decode cX1_settles 27 = .ok (.ireturn, 1) := by decide +kernel
theorem dX1_loses_0 : decode cX1_loses 0 = .ok (.aload_n 0, 1) := by decide +kernel
theorem dX1_loses_1 : decode cX1_loses 1 = .ok (.getfield 16, 3) := by decide +kernel
theorem dX1_loses_4 : decode cX1_loses 4 = .ok (.invokevirtual 23, 3) := by decide +kernel
theorem dX1_loses_7 : decode cX1_loses 7 = .ok (.ifCond .eq 16, 3) := by decide +kernel
theorem dX1_loses_10 : decode cX1_loses 10 = .ok (.iload_n 3, 1) := by decide +kernel
theorem dX1_loses_11 : decode cX1_loses 11 = .ok (.ifCond .eq 10, 3) := by decide +kernel
theorem dX1_loses_14 : decode cX1_loses 14 = .ok (.iload_n 1, 1) := by decide +kernel
theorem dX1_loses_15 : decode cX1_loses 15 = .ok (.invokestatic 31, 3) := by decide +kernel
theorem dX1_loses_18 : decode cX1_loses 18 = .ok (.goto 4, 3) := by decide +kernel
theorem dX1_loses_21 : decode cX1_loses 21 = .ok (.iconst 0, 1) := by decide +kernel
theorem dX1_loses_22 : decode cX1_loses 22 = .ok (.ireturn, 1) := by decide +kernel
theorem dX1_loses_23 : decode cX1_loses 23 = .ok (.aload_n 0, 1) := by decide +kernel
theorem dX1_loses_24 : decode cX1_loses 24 = .ok (.getfield 16, 3) := by decide +kernel
theorem dX1_loses_27 : decode cX1_loses 27 = .ok (.iload_n 1, 1) := by decide +kernel
theorem dX1_loses_28 : decode cX1_loses 28 = .ok (.iload_n 2, 1) := by decide +kernel
theorem dX1_loses_29 : decode cX1_loses 29 = .ok (.iload_n 3, 1) := by decide +kernel
theorem dX1_loses_30 : decode cX1_loses 30 = .ok (.invokevirtual 27, 3) := by decide +kernel
theorem dX1_loses_33 : decode cX1_loses 33 = .ok (.invokestatic 31, 3) := by decide +kernel
theorem dX1_loses_36 : decode cX1_loses 36 = .ok (.ireturn, 1) := by decide +kernel
theorem dX2_init_0 : decode cX2_init 0 = .ok (.aload_n 0, 1) := by decide +kernel
theorem dX2_init_1 : decode cX2_init 1 = .ok (.invokespecial 3, 3) := by decide +kernel
theorem dX2_init_4 : decode cX2_init 4 = .ok (.aload_n 0, 1) := by decide +kernel
theorem dX2_init_5 : decode cX2_init 5 = .ok (.sipush 1792, 3) := by decide +kernel
theorem dX2_init_8 : decode cX2_init 8 = .ok (.newarray .int, 2) := by decide +kernel
theorem dX2_init_10 : decode cX2_init 10 = .ok (.putfield 9, 3) := by decide +kernel
theorem dX2_init_13 : decode cX2_init 13 = .ok (.aload_n 0, 1) := by decide +kernel
theorem dX2_init_14 : decode cX2_init 14 = .ok (.bipush 6, 2) := by decide +kernel
theorem dX2_init_16 : decode cX2_init 16 = .ok (.newarray .int, 2) := by decide +kernel
theorem dX2_init_18 : decode cX2_init 18 = .ok (.putfield 15, 3) := by decide +kernel
theorem dX2_init_21 : decode cX2_init 21 = .ok (.aload_n 0, 1) := by decide +kernel
theorem dX2_init_22 : decode cX2_init 22 = .ok (.bipush 8, 2) := by decide +kernel
theorem dX2_init_24 : decode cX2_init 24 = .ok (.newarray .int, 2) := by decide +kernel
theorem dX2_init_26 : decode cX2_init 26 = .ok (.putfield 18, 3) := by decide +kernel
theorem dX2_init_29 : decode cX2_init 29 = .ok (.return_, 1) := by decide +kernel
theorem dX2_fill_0 : decode cX2_fill 0 = .ok (.aload_n 0, 1) := by decide +kernel
theorem dX2_fill_1 : decode cX2_fill 1 = .ok (.aload_n 1, 1) := by decide +kernel
theorem dX2_fill_2 : decode cX2_fill 2 = .ok (.getfield 21, 3) := by decide +kernel
theorem dX2_fill_5 : decode cX2_fill 5 = .ok (.getfield 27, 3) := by decide +kernel
theorem dX2_fill_8 : decode cX2_fill 8 = .ok (.putfield 33, 3) := by decide +kernel
theorem dX2_fill_11 : decode cX2_fill 11 = .ok (.aload_n 1, 1) := by decide +kernel
theorem dX2_fill_12 : decode cX2_fill 12 = .ok (.getfield 34, 3) := by decide +kernel
theorem dX2_fill_15 : decode cX2_fill 15 = .ok (.iconst 0, 1) := by decide +kernel
theorem dX2_fill_16 : decode cX2_fill 16 = .ok (.aload_n 0, 1) := by decide +kernel
theorem dX2_fill_17 : decode cX2_fill 17 = .ok (.getfield 15, 3) := by decide +kernel
theorem dX2_fill_20 : decode cX2_fill 20 = .ok (.iconst 0, 1) := by decide +kernel
theorem dX2_fill_21 : decode cX2_fill 21 = .ok (.bipush 6, 2) := by decide +kernel
theorem dX2_fill_23 : decode cX2_fill 23 = .ok (.invokestatic 35, 3) := by decide +kernel
theorem dX2_fill_26 : decode cX2_fill 26 = .ok (.aload_n 1, 1) := by decide +kernel
theorem dX2_fill_27 : decode cX2_fill 27 = .ok (.getfield 21, 3) := by decide +kernel
theorem dX2_fill_30 : decode cX2_fill 30 = .ok (.getfield 41, 3) := by decide +kernel
theorem dX2_fill_33 : decode cX2_fill 33 = .ok (.iconst 0, 1) := by decide +kernel
theorem dX2_fill_34 : decode cX2_fill 34 = .ok (.aload_n 0, 1) := by decide +kernel
theorem dX2_fill_35 : decode cX2_fill 35 = .ok (.getfield 18, 3) := by decide +kernel
theorem dX2_fill_38 : decode cX2_fill 38 = .ok (.iconst 0, 1) := by decide +kernel
theorem dX2_fill_39 : decode cX2_fill 39 = .ok (.bipush 8, 2) := by decide +kernel
theorem dX2_fill_41 : decode cX2_fill 41 = .ok (.invokestatic 35, 3) := by decide +kernel
theorem dX2_fill_44 : decode cX2_fill 44 = .ok (.iconst 5, 1) := by decide +kernel
theorem dX2_fill_45 : decode cX2_fill 45 = .ok (.istore_n 2, 1) := by decide +kernel
theorem dX2_fill_46 : decode cX2_fill 46 = .ok (.iload_n 2, 1) := by decide +kernel
theorem dX2_fill_47 : decode cX2_fill 47 = .ok (.ifCond .lt 43, 3) := by decide +kernel
theorem dX2_fill_50 : decode cX2_fill 50 = .ok (.iconst 0, 1) := by decide +kernel
theorem dX2_fill_51 : decode cX2_fill 51 = .ok (.istore_n 3, 1) := by decide +kernel
theorem dX2_fill_52 : decode cX2_fill 52 = .ok (.iload_n 3, 1) := by decide +kernel
theorem dX2_fill_53 : decode cX2_fill 53 = .ok (.iconst 1, 1) := by decide +kernel
theorem dX2_fill_54 : decode cX2_fill 54 = .ok (.aload_n 0, 1) := by decide +kernel
theorem dX2_fill_55 : decode cX2_fill 55 = .ok (.getfield 33, 3) := by decide +kernel
theorem dX2_fill_58 : decode cX2_fill 58 = .ok (.ishl, 1) := by decide +kernel
theorem dX2_fill_59 : decode cX2_fill 59 = .ok (.if_icmp .ge 25, 3) := by decide +kernel
theorem dX2_fill_62 : decode cX2_fill 62 = .ok (.aload_n 0, 1) := by decide +kernel
theorem dX2_fill_63 : decode cX2_fill 63 = .ok (.getfield 9, 3) := by decide +kernel
theorem dX2_fill_66 : decode cX2_fill 66 = .ok (.iload_n 2, 1) := by decide +kernel
theorem dX2_fill_67 : decode cX2_fill 67 = .ok (.iload_n 3, 1) := by decide +kernel
theorem dX2_fill_68 : decode cX2_fill 68 = .ok (.invokestatic 42, 3) := by decide +kernel
theorem dX2_fill_71 : decode cX2_fill 71 = .ok (.aload_n 0, 1) := by decide +kernel
theorem dX2_fill_72 : decode cX2_fill 72 = .ok (.iload_n 2, 1) := by decide +kernel
theorem dX2_fill_73 : decode cX2_fill 73 = .ok (.iload_n 3, 1) := by decide +kernel
theorem dX2_fill_74 : decode cX2_fill 74 = .ok (.invokevirtual 46, 3) := by decide +kernel
theorem dX2_fill_77 : decode cX2_fill 77 = .ok (.iastore, 1) := by decide +kernel
theorem dX2_fill_78 : decode cX2_fill 78 = .ok (.iinc 3 1, 3) := by decide +kernel
theorem dX2_fill_81 : decode cX2_fill 81 = .ok (.goto (-29), 3) := by decide +kernel
theorem dX2_fill_84 : decode cX2_fill 84 = .ok (.iinc 2 (-1), 3) := by decide +kernel
theorem dX2_fill_87 : decode cX2_fill 87 = .ok (.goto (-41), 3) := by decide +kernel
theorem dX2_fill_90 : decode cX2_fill 90 = .ok (.return_, 1) := by decide +kernel
theorem dX2_mostServed_0 : decode cX2_mostServed 0 = .ok (.aload_n 0, 1) := by decide +kernel
theorem dX2_mostServed_1 : decode cX2_mostServed 1 = .ok (.getfield 9, 3) := by decide +kernel
theorem dX2_mostServed_4 : decode cX2_mostServed 4 = .ok (.iconst 0, 1) := by decide +kernel
theorem dX2_mostServed_5 : decode cX2_mostServed 5 = .ok (.iaload, 1) := by decide +kernel
theorem dX2_mostServed_6 : decode cX2_mostServed 6 = .ok (.ireturn, 1) := by decide +kernel
theorem dX2_boatOf_0 : decode cX2_boatOf 0 = .ok (.iconst 0, 1) := by decide +kernel
theorem dX2_boatOf_1 : decode cX2_boatOf 1 = .ok (.istore_n 2, 1) := by decide +kernel
theorem dX2_boatOf_2 : decode cX2_boatOf 2 = .ok (.bipush 8, 2) := by decide +kernel
theorem dX2_boatOf_4 : decode cX2_boatOf 4 = .ok (.istore_n 3, 1) := by decide +kernel
theorem dX2_boatOf_5 : decode cX2_boatOf 5 = .ok (.iconst 0, 1) := by decide +kernel
theorem dX2_boatOf_6 : decode cX2_boatOf 6 = .ok (.istore 4, 2) := by decide +kernel
theorem dX2_boatOf_8 : decode cX2_boatOf 8 = .ok (.iload 4, 2) := by decide +kernel
theorem dX2_boatOf_10 : decode cX2_boatOf 10 = .ok (.iload_n 1, 1) := by decide +kernel
theorem dX2_boatOf_11 : decode cX2_boatOf 11 = .ok (.if_icmp .gt 33, 3) := by decide +kernel
theorem dX2_boatOf_14 : decode cX2_boatOf 14 = .ok (.aload_n 0, 1) := by decide +kernel
theorem dX2_boatOf_15 : decode cX2_boatOf 15 = .ok (.iload 4, 2) := by decide +kernel
theorem dX2_boatOf_17 : decode cX2_boatOf 17 = .ok (.iload_n 2, 1) := by decide +kernel
theorem dX2_boatOf_18 : decode cX2_boatOf 18 = .ok (.invokevirtual 49, 3) := by decide +kernel
theorem dX2_boatOf_21 : decode cX2_boatOf 21 = .ok (.istore_n 3, 1) := by decide +kernel
theorem dX2_boatOf_22 : decode cX2_boatOf 22 = .ok (.iload_n 3, 1) := by decide +kernel
theorem dX2_boatOf_23 : decode cX2_boatOf 23 = .ok (.bipush 8, 2) := by decide +kernel
theorem dX2_boatOf_25 : decode cX2_boatOf 25 = .ok (.if_icmp .ge 11, 3) := by decide +kernel
theorem dX2_boatOf_28 : decode cX2_boatOf 28 = .ok (.iload_n 2, 1) := by decide +kernel
theorem dX2_boatOf_29 : decode cX2_boatOf 29 = .ok (.iconst 1, 1) := by decide +kernel
theorem dX2_boatOf_30 : decode cX2_boatOf 30 = .ok (.iload_n 3, 1) := by decide +kernel
theorem dX2_boatOf_31 : decode cX2_boatOf 31 = .ok (.ishl, 1) := by decide +kernel
theorem dX2_boatOf_32 : decode cX2_boatOf 32 = .ok (.ior, 1) := by decide +kernel
theorem dX2_boatOf_33 : decode cX2_boatOf 33 = .ok (.goto 4, 3) := by decide +kernel
theorem dX2_boatOf_36 : decode cX2_boatOf 36 = .ok (.iload_n 2, 1) := by decide +kernel
theorem dX2_boatOf_37 : decode cX2_boatOf 37 = .ok (.istore_n 2, 1) := by decide +kernel
theorem dX2_boatOf_38 : decode cX2_boatOf 38 = .ok (.iinc 4 1, 3) := by decide +kernel
theorem dX2_boatOf_41 : decode cX2_boatOf 41 = .ok (.goto (-33), 3) := by decide +kernel
theorem dX2_boatOf_44 : decode cX2_boatOf 44 = .ok (.iload_n 3, 1) := by decide +kernel
theorem dX2_boatOf_45 : decode cX2_boatOf 45 = .ok (.ireturn, 1) := by decide +kernel
theorem dX2_firstBest_0 : decode cX2_firstBest 0 = .ok (.aload_n 0, 1) := by decide +kernel
theorem dX2_firstBest_1 : decode cX2_firstBest 1 = .ok (.getfield 9, 3) := by decide +kernel
theorem dX2_firstBest_4 : decode cX2_firstBest 4 = .ok (.iload_n 1, 1) := by decide +kernel
theorem dX2_firstBest_5 : decode cX2_firstBest 5 = .ok (.iload_n 2, 1) := by decide +kernel
theorem dX2_firstBest_6 : decode cX2_firstBest 6 = .ok (.invokestatic 42, 3) := by decide +kernel
theorem dX2_firstBest_9 : decode cX2_firstBest 9 = .ok (.iaload, 1) := by decide +kernel
theorem dX2_firstBest_10 : decode cX2_firstBest 10 = .ok (.istore_n 3, 1) := by decide +kernel
theorem dX2_firstBest_11 : decode cX2_firstBest 11 = .ok (.iconst 0, 1) := by decide +kernel
theorem dX2_firstBest_12 : decode cX2_firstBest 12 = .ok (.istore 4, 2) := by decide +kernel
theorem dX2_firstBest_14 : decode cX2_firstBest 14 = .ok (.iload 4, 2) := by decide +kernel
theorem dX2_firstBest_16 : decode cX2_firstBest 16 = .ok (.aload_n 0, 1) := by decide +kernel
theorem dX2_firstBest_17 : decode cX2_firstBest 17 = .ok (.getfield 33, 3) := by decide +kernel
theorem dX2_firstBest_20 : decode cX2_firstBest 20 = .ok (.if_icmp .ge 33, 3) := by decide +kernel
theorem dX2_firstBest_23 : decode cX2_firstBest 23 = .ok (.iload 4, 2) := by decide +kernel
theorem dX2_firstBest_25 : decode cX2_firstBest 25 = .ok (.iload_n 2, 1) := by decide +kernel
theorem dX2_firstBest_26 : decode cX2_firstBest 26 = .ok (.invokestatic 52, 3) := by decide +kernel
theorem dX2_firstBest_29 : decode cX2_firstBest 29 = .ok (.ifCond .eq 18, 3) := by decide +kernel
theorem dX2_firstBest_32 : decode cX2_firstBest 32 = .ok (.aload_n 0, 1) := by decide +kernel
theorem dX2_firstBest_33 : decode cX2_firstBest 33 = .ok (.iload_n 1, 1) := by decide +kernel
theorem dX2_firstBest_34 : decode cX2_firstBest 34 = .ok (.iload_n 2, 1) := by decide +kernel
theorem dX2_firstBest_35 : decode cX2_firstBest 35 = .ok (.iload 4, 2) := by decide +kernel
theorem dX2_firstBest_37 : decode cX2_firstBest 37 = .ok (.invokevirtual 56, 3) := by decide +kernel
theorem dX2_firstBest_40 : decode cX2_firstBest 40 = .ok (.iload_n 3, 1) := by decide +kernel
theorem dX2_firstBest_41 : decode cX2_firstBest 41 = .ok (.if_icmp .ne 6, 3) := by decide +kernel
theorem dX2_firstBest_44 : decode cX2_firstBest 44 = .ok (.iload 4, 2) := by decide +kernel
theorem dX2_firstBest_46 : decode cX2_firstBest 46 = .ok (.ireturn, 1) := by decide +kernel
theorem dX2_firstBest_47 : decode cX2_firstBest 47 = .ok (.iinc 4 1, 3) := by decide +kernel
theorem dX2_firstBest_50 : decode cX2_firstBest 50 = .ok (.goto (-36), 3) := by decide +kernel
theorem dX2_firstBest_53 : decode cX2_firstBest 53 = .ok (.bipush 8, 2) := by decide +kernel
theorem dX2_firstBest_55 : decode cX2_firstBest 55 = .ok (.ireturn, 1) := by decide +kernel
theorem dX2_mostFrom_0 : decode cX2_mostFrom 0 = .ok (.aload_n 0, 1) := by decide +kernel
theorem dX2_mostFrom_1 : decode cX2_mostFrom 1 = .ok (.getfield 9, 3) := by decide +kernel
theorem dX2_mostFrom_4 : decode cX2_mostFrom 4 = .ok (.iload_n 1, 1) := by decide +kernel
theorem dX2_mostFrom_5 : decode cX2_mostFrom 5 = .ok (.iconst 1, 1) := by decide +kernel
theorem dX2_mostFrom_6 : decode cX2_mostFrom 6 = .ok (.iadd, 1) := by decide +kernel
theorem dX2_mostFrom_7 : decode cX2_mostFrom 7 = .ok (.iload_n 2, 1) := by decide +kernel
theorem dX2_mostFrom_8 : decode cX2_mostFrom 8 = .ok (.invokestatic 42, 3) := by decide +kernel
theorem dX2_mostFrom_11 : decode cX2_mostFrom 11 = .ok (.iaload, 1) := by decide +kernel
theorem dX2_mostFrom_12 : decode cX2_mostFrom 12 = .ok (.istore_n 3, 1) := by decide +kernel
theorem dX2_mostFrom_13 : decode cX2_mostFrom 13 = .ok (.iconst 0, 1) := by decide +kernel
theorem dX2_mostFrom_14 : decode cX2_mostFrom 14 = .ok (.istore 4, 2) := by decide +kernel
theorem dX2_mostFrom_16 : decode cX2_mostFrom 16 = .ok (.iload 4, 2) := by decide +kernel
theorem dX2_mostFrom_18 : decode cX2_mostFrom 18 = .ok (.aload_n 0, 1) := by decide +kernel
theorem dX2_mostFrom_19 : decode cX2_mostFrom 19 = .ok (.getfield 33, 3) := by decide +kernel
theorem dX2_mostFrom_22 : decode cX2_mostFrom 22 = .ok (.if_icmp .ge 31, 3) := by decide +kernel
theorem dX2_mostFrom_25 : decode cX2_mostFrom 25 = .ok (.iload 4, 2) := by decide +kernel
theorem dX2_mostFrom_27 : decode cX2_mostFrom 27 = .ok (.iload_n 2, 1) := by decide +kernel
theorem dX2_mostFrom_28 : decode cX2_mostFrom 28 = .ok (.invokestatic 52, 3) := by decide +kernel
theorem dX2_mostFrom_31 : decode cX2_mostFrom 31 = .ok (.ifCond .eq 16, 3) := by decide +kernel
theorem dX2_mostFrom_34 : decode cX2_mostFrom 34 = .ok (.iload_n 3, 1) := by decide +kernel
theorem dX2_mostFrom_35 : decode cX2_mostFrom 35 = .ok (.aload_n 0, 1) := by decide +kernel
theorem dX2_mostFrom_36 : decode cX2_mostFrom 36 = .ok (.iload_n 1, 1) := by decide +kernel
theorem dX2_mostFrom_37 : decode cX2_mostFrom 37 = .ok (.iload_n 2, 1) := by decide +kernel
theorem dX2_mostFrom_38 : decode cX2_mostFrom 38 = .ok (.iload 4, 2) := by decide +kernel
theorem dX2_mostFrom_40 : decode cX2_mostFrom 40 = .ok (.invokevirtual 56, 3) := by decide +kernel
theorem dX2_mostFrom_43 : decode cX2_mostFrom 43 = .ok (.invokestatic 60, 3) := by decide +kernel
theorem dX2_mostFrom_46 : decode cX2_mostFrom 46 = .ok (.istore_n 3, 1) := by decide +kernel
theorem dX2_mostFrom_47 : decode cX2_mostFrom 47 = .ok (.iinc 4 1, 3) := by decide +kernel
theorem dX2_mostFrom_50 : decode cX2_mostFrom 50 = .ok (.goto (-34), 3) := by decide +kernel
theorem dX2_mostFrom_53 : decode cX2_mostFrom 53 = .ok (.iload_n 3, 1) := by decide +kernel
theorem dX2_mostFrom_54 : decode cX2_mostFrom 54 = .ok (.ireturn, 1) := by decide +kernel
theorem dX2_isFree_0 : decode cX2_isFree 0 = .ok (.iload_n 1, 1) := by decide +kernel
theorem dX2_isFree_1 : decode cX2_isFree 1 = .ok (.iload_n 0, 1) := by decide +kernel
theorem dX2_isFree_2 : decode cX2_isFree 2 = .ok (.ishr, 1) := by decide +kernel
theorem dX2_isFree_3 : decode cX2_isFree 3 = .ok (.iconst 1, 1) := by decide +kernel
theorem dX2_isFree_4 : decode cX2_isFree 4 = .ok (.iand, 1) := by decide +kernel
theorem dX2_isFree_5 : decode cX2_isFree 5 = .ok (.ifCond .ne 7, 3) := by decide +kernel
theorem dX2_isFree_8 : decode cX2_isFree 8 = .ok (.iconst 1, 1) := by decide +kernel
theorem dX2_isFree_9 : decode cX2_isFree 9 = .ok (.goto 4, 3) := by decide +kernel
theorem dX2_isFree_12 : decode cX2_isFree 12 = .ok (.iconst 0, 1) := by decide +kernel
theorem dX2_isFree_13 : decode cX2_isFree 13 = .ok (.ireturn, 1) := by decide +kernel
theorem dX2_withBoat_0 : decode cX2_withBoat 0 = .ok (.aload_n 0, 1) := by decide +kernel
theorem dX2_withBoat_1 : decode cX2_withBoat 1 = .ok (.getfield 15, 3) := by decide +kernel
theorem dX2_withBoat_4 : decode cX2_withBoat 4 = .ok (.iload_n 1, 1) := by decide +kernel
theorem dX2_withBoat_5 : decode cX2_withBoat 5 = .ok (.iaload, 1) := by decide +kernel
theorem dX2_withBoat_6 : decode cX2_withBoat 6 = .ok (.aload_n 0, 1) := by decide +kernel
theorem dX2_withBoat_7 : decode cX2_withBoat 7 = .ok (.getfield 18, 3) := by decide +kernel
theorem dX2_withBoat_10 : decode cX2_withBoat 10 = .ok (.iload_n 3, 1) := by decide +kernel
theorem dX2_withBoat_11 : decode cX2_withBoat 11 = .ok (.iaload, 1) := by decide +kernel
theorem dX2_withBoat_12 : decode cX2_withBoat 12 = .ok (.invokestatic 65, 3) := by decide +kernel
theorem dX2_withBoat_15 : decode cX2_withBoat 15 = .ok (.aload_n 0, 1) := by decide +kernel
theorem dX2_withBoat_16 : decode cX2_withBoat 16 = .ok (.getfield 9, 3) := by decide +kernel
theorem dX2_withBoat_19 : decode cX2_withBoat 19 = .ok (.iload_n 1, 1) := by decide +kernel
theorem dX2_withBoat_20 : decode cX2_withBoat 20 = .ok (.iconst 1, 1) := by decide +kernel
theorem dX2_withBoat_21 : decode cX2_withBoat 21 = .ok (.iadd, 1) := by decide +kernel
theorem dX2_withBoat_22 : decode cX2_withBoat 22 = .ok (.iload_n 2, 1) := by decide +kernel
theorem dX2_withBoat_23 : decode cX2_withBoat 23 = .ok (.iconst 1, 1) := by decide +kernel
theorem dX2_withBoat_24 : decode cX2_withBoat 24 = .ok (.iload_n 3, 1) := by decide +kernel
theorem dX2_withBoat_25 : decode cX2_withBoat 25 = .ok (.ishl, 1) := by decide +kernel
theorem dX2_withBoat_26 : decode cX2_withBoat 26 = .ok (.ior, 1) := by decide +kernel
theorem dX2_withBoat_27 : decode cX2_withBoat 27 = .ok (.invokestatic 42, 3) := by decide +kernel
theorem dX2_withBoat_30 : decode cX2_withBoat 30 = .ok (.iaload, 1) := by decide +kernel
theorem dX2_withBoat_31 : decode cX2_withBoat 31 = .ok (.iadd, 1) := by decide +kernel
theorem dX2_withBoat_32 : decode cX2_withBoat 32 = .ok (.ireturn, 1) := by decide +kernel
theorem dX2_slot_0 : decode cX2_slot 0 = .ok (.iload_n 0, 1) := by decide +kernel
theorem dX2_slot_1 : decode cX2_slot 1 = .ok (.bipush 8, 2) := by decide +kernel
theorem dX2_slot_3 : decode cX2_slot 3 = .ok (.ishl, 1) := by decide +kernel
theorem dX2_slot_4 : decode cX2_slot 4 = .ok (.iload_n 1, 1) := by decide +kernel
theorem dX2_slot_5 : decode cX2_slot 5 = .ok (.ior, 1) := by decide +kernel
theorem dX2_slot_6 : decode cX2_slot 6 = .ok (.ireturn, 1) := by decide +kernel
theorem dX3_init_0 : decode cX3_init 0 = .ok (.aload_n 0, 1) := by decide +kernel
theorem dX3_init_1 : decode cX3_init 1 = .ok (.invokespecial 3, 3) := by decide +kernel
theorem dX3_init_4 : decode cX3_init 4 = .ok (.aload_n 0, 1) := by decide +kernel
theorem dX3_init_5 : decode cX3_init 5 = .ok (.new 9, 3) := by decide +kernel
theorem dX3_init_8 : decode cX3_init 8 = .ok (.dup, 1) := by decide +kernel
theorem dX3_init_9 : decode cX3_init 9 = .ok (.invokespecial 11, 3) := by decide +kernel
theorem dX3_init_12 : decode cX3_init 12 = .ok (.putfield 12, 3) := by decide +kernel
theorem dX3_init_15 : decode cX3_init 15 = .ok (.aload_n 0, 1) := by decide +kernel
theorem dX3_init_16 : decode cX3_init 16 = .ok (.new 18, 3) := by decide +kernel
theorem dX3_init_19 : decode cX3_init 19 = .ok (.dup, 1) := by decide +kernel
theorem dX3_init_20 : decode cX3_init 20 = .ok (.bipush 50, 2) := by decide +kernel
theorem dX3_init_22 : decode cX3_init 22 = .ok (.invokespecial 20, 3) := by decide +kernel
theorem dX3_init_25 : decode cX3_init 25 = .ok (.putfield 23, 3) := by decide +kernel
theorem dX3_init_28 : decode cX3_init 28 = .ok (.aload_n 0, 1) := by decide +kernel
theorem dX3_init_29 : decode cX3_init 29 = .ok (.ldc 27, 2) := by decide +kernel
theorem dX3_init_31 : decode cX3_init 31 = .ok (.putfield 29, 3) := by decide +kernel
theorem dX3_init_34 : decode cX3_init 34 = .ok (.return_, 1) := by decide +kernel
theorem dX3_faultFor_0 : decode cX3_faultFor 0 = .ok (.aload_n 0, 1) := by decide +kernel
theorem dX3_faultFor_1 : decode cX3_faultFor 1 = .ok (.getfield 23, 3) := by decide +kernel
theorem dX3_faultFor_4 : decode cX3_faultFor 4 = .ok (.aload_n 1, 1) := by decide +kernel
theorem dX3_faultFor_5 : decode cX3_faultFor 5 = .ok (.invokevirtual 33, 3) := by decide +kernel
theorem dX3_faultFor_8 : decode cX3_faultFor 8 = .ok (.aload_n 0, 1) := by decide +kernel
theorem dX3_faultFor_9 : decode cX3_faultFor 9 = .ok (.iload_n 2, 1) := by decide +kernel
theorem dX3_faultFor_10 : decode cX3_faultFor 10 = .ok (.ifCond .ne 8, 3) := by decide +kernel
theorem dX3_faultFor_13 : decode cX3_faultFor 13 = .ok (.ldc 37, 2) := by decide +kernel
theorem dX3_faultFor_15 : decode cX3_faultFor 15 = .ok (.goto 5, 3) := by decide +kernel
theorem dX3_faultFor_18 : decode cX3_faultFor 18 = .ok (.ldc 39, 2) := by decide +kernel
theorem dX3_faultFor_20 : decode cX3_faultFor 20 = .ok (.putfield 29, 3) := by decide +kernel
theorem dX3_faultFor_23 : decode cX3_faultFor 23 = .ok (.aload_n 0, 1) := by decide +kernel
theorem dX3_faultFor_24 : decode cX3_faultFor 24 = .ok (.iconst 0, 1) := by decide +kernel
theorem dX3_faultFor_25 : decode cX3_faultFor 25 = .ok (.putfield 41, 3) := by decide +kernel
theorem dX3_faultFor_28 : decode cX3_faultFor 28 = .ok (.aload_n 0, 1) := by decide +kernel
theorem dX3_faultFor_29 : decode cX3_faultFor 29 = .ok (.getfield 12, 3) := by decide +kernel
theorem dX3_faultFor_32 : decode cX3_faultFor 32 = .ok (.getfield 45, 3) := by decide +kernel
theorem dX3_faultFor_35 : decode cX3_faultFor 35 = .ok (.invokevirtual 48, 3) := by decide +kernel
theorem dX3_faultFor_38 : decode cX3_faultFor 38 = .ok (.aload_n 0, 1) := by decide +kernel
theorem dX3_faultFor_39 : decode cX3_faultFor 39 = .ok (.iconst 0, 1) := by decide +kernel
theorem dX3_faultFor_40 : decode cX3_faultFor 40 = .ok (.iconst 0, 1) := by decide +kernel
theorem dX3_faultFor_41 : decode cX3_faultFor 41 = .ok (.invokevirtual 51, 3) := by decide +kernel
theorem dX3_faultFor_44 : decode cX3_faultFor 44 = .ok (.ifCond .eq 21, 3) := by decide +kernel
theorem dX3_faultFor_47 : decode cX3_faultFor 47 = .ok (.aload_n 0, 1) := by decide +kernel
theorem dX3_faultFor_48 : decode cX3_faultFor 48 = .ok (.getfield 41, 3) := by decide +kernel
theorem dX3_faultFor_51 : decode cX3_faultFor 51 = .ok (.aload_n 0, 1) := by decide +kernel
theorem dX3_faultFor_52 : decode cX3_faultFor 52 = .ok (.getfield 23, 3) := by decide +kernel
theorem dX3_faultFor_55 : decode cX3_faultFor 55 = .ok (.getfield 55, 3) := by decide +kernel
theorem dX3_faultFor_58 : decode cX3_faultFor 58 = .ok (.if_icmp .ne 7, 3) := by decide +kernel
theorem dX3_faultFor_61 : decode cX3_faultFor 61 = .ok (.iconst (-1), 1) := by decide +kernel
theorem dX3_faultFor_62 : decode cX3_faultFor 62 = .ok (.goto 7, 3) := by decide +kernel
theorem dX3_faultFor_65 : decode cX3_faultFor 65 = .ok (.aload_n 0, 1) := by decide +kernel
theorem dX3_faultFor_66 : decode cX3_faultFor 66 = .ok (.getfield 41, 3) := by decide +kernel
theorem dX3_faultFor_69 : decode cX3_faultFor 69 = .ok (.ireturn, 1) := by decide +kernel
theorem dX3_readLevel_0 : decode cX3_readLevel 0 = .ok (.iload_n 1, 1) := by decide +kernel
theorem dX3_readLevel_1 : decode cX3_readLevel 1 = .ok (.iconst 5, 1) := by decide +kernel
theorem dX3_readLevel_2 : decode cX3_readLevel 2 = .ok (.if_icmp .lt 9, 3) := by decide +kernel
theorem dX3_readLevel_5 : decode cX3_readLevel 5 = .ok (.aload_n 0, 1) := by decide +kernel
theorem dX3_readLevel_6 : decode cX3_readLevel 6 = .ok (.iload_n 2, 1) := by decide +kernel
theorem dX3_readLevel_7 : decode cX3_readLevel 7 = .ok (.invokevirtual 58, 3) := by decide +kernel
theorem dX3_readLevel_10 : decode cX3_readLevel 10 = .ok (.ireturn, 1) := by decide +kernel
theorem dX3_readLevel_11 : decode cX3_readLevel 11 = .ok (.aload_n 0, 1) := by decide +kernel
theorem dX3_readLevel_12 : decode cX3_readLevel 12 = .ok (.iload_n 1, 1) := by decide +kernel
theorem dX3_readLevel_13 : decode cX3_readLevel 13 = .ok (.iconst 1, 1) := by decide +kernel
theorem dX3_readLevel_14 : decode cX3_readLevel 14 = .ok (.iadd, 1) := by decide +kernel
theorem dX3_readLevel_15 : decode cX3_readLevel 15 = .ok (.iload_n 2, 1) := by decide +kernel
theorem dX3_readLevel_16 : decode cX3_readLevel 16 = .ok (.invokevirtual 51, 3) := by decide +kernel
theorem dX3_readLevel_19 : decode cX3_readLevel 19 = .ok (.ifCond .ne 5, 3) := by decide +kernel
theorem dX3_readLevel_22 : decode cX3_readLevel 22 = .ok (.iconst 0, 1) := by decide +kernel
theorem dX3_readLevel_23 : decode cX3_readLevel 23 = .ok (.ireturn, 1) := by decide +kernel
theorem dX3_readLevel_24 : decode cX3_readLevel 24 = .ok (.iload_n 1, 1) := by decide +kernel
theorem dX3_readLevel_25 : decode cX3_readLevel 25 = .ok (.iconst 2, 1) := by decide +kernel
theorem dX3_readLevel_26 : decode cX3_readLevel 26 = .ok (.if_icmp .ne 7, 3) := by decide +kernel
theorem dX3_readLevel_29 : decode cX3_readLevel 29 = .ok (.iconst 1, 1) := by decide +kernel
theorem dX3_readLevel_30 : decode cX3_readLevel 30 = .ok (.goto 5, 3) := by decide +kernel
theorem dX3_readLevel_33 : decode cX3_readLevel 33 = .ok (.bipush 50, 2) := by decide +kernel
theorem dX3_readLevel_35 : decode cX3_readLevel 35 = .ok (.istore_n 3, 1) := by decide +kernel
theorem dX3_readLevel_36 : decode cX3_readLevel 36 = .ok (.iconst 0, 1) := by decide +kernel
theorem dX3_readLevel_37 : decode cX3_readLevel 37 = .ok (.istore 4, 2) := by decide +kernel
theorem dX3_readLevel_39 : decode cX3_readLevel 39 = .ok (.iload 4, 2) := by decide +kernel
theorem dX3_readLevel_41 : decode cX3_readLevel 41 = .ok (.iload_n 3, 1) := by decide +kernel
theorem dX3_readLevel_42 : decode cX3_readLevel 42 = .ok (.if_icmp .ge 62, 3) := by decide +kernel
theorem dX3_readLevel_45 : decode cX3_readLevel 45 = .ok (.aload_n 0, 1) := by decide +kernel
theorem dX3_readLevel_46 : decode cX3_readLevel 46 = .ok (.invokevirtual 62, 3) := by decide +kernel
theorem dX3_readLevel_49 : decode cX3_readLevel 49 = .ok (.invokestatic 66, 3) := by decide +kernel
theorem dX3_readLevel_52 : decode cX3_readLevel 52 = .ok (.iload_n 1, 1) := by decide +kernel
theorem dX3_readLevel_53 : decode cX3_readLevel 53 = .ok (.if_icmp .ne 51, 3) := by decide +kernel
theorem dX3_readLevel_56 : decode cX3_readLevel 56 = .ok (.aload_n 0, 1) := by decide +kernel
theorem dX3_readLevel_57 : decode cX3_readLevel 57 = .ok (.invokevirtual 62, 3) := by decide +kernel
theorem dX3_readLevel_60 : decode cX3_readLevel 60 = .ok (.istore 5, 2) := by decide +kernel
theorem dX3_readLevel_62 : decode cX3_readLevel 62 = .ok (.aload_n 0, 1) := by decide +kernel
theorem dX3_readLevel_63 : decode cX3_readLevel 63 = .ok (.dup, 1) := by decide +kernel
theorem dX3_readLevel_64 : decode cX3_readLevel 64 = .ok (.getfield 41, 3) := by decide +kernel
theorem dX3_readLevel_67 : decode cX3_readLevel 67 = .ok (.iconst 1, 1) := by decide +kernel
theorem dX3_readLevel_68 : decode cX3_readLevel 68 = .ok (.iadd, 1) := by decide +kernel
theorem dX3_readLevel_69 : decode cX3_readLevel 69 = .ok (.putfield 41, 3) := by decide +kernel
theorem dX3_readLevel_72 : decode cX3_readLevel 72 = .ok (.aload_n 0, 1) := by decide +kernel
theorem dX3_readLevel_73 : decode cX3_readLevel 73 = .ok (.iload_n 1, 1) := by decide +kernel
theorem dX3_readLevel_74 : decode cX3_readLevel 74 = .ok (.iconst 1, 1) := by decide +kernel
theorem dX3_readLevel_75 : decode cX3_readLevel 75 = .ok (.iadd, 1) := by decide +kernel
theorem dX3_readLevel_76 : decode cX3_readLevel 76 = .ok (.iload_n 2, 1) := by decide +kernel
theorem dX3_readLevel_77 : decode cX3_readLevel 77 = .ok (.invokevirtual 51, 3) := by decide +kernel
theorem dX3_readLevel_80 : decode cX3_readLevel 80 = .ok (.ifCond .ne 5, 3) := by decide +kernel
theorem dX3_readLevel_83 : decode cX3_readLevel 83 = .ok (.iconst 0, 1) := by decide +kernel
theorem dX3_readLevel_84 : decode cX3_readLevel 84 = .ok (.ireturn, 1) := by decide +kernel
theorem dX3_readLevel_85 : decode cX3_readLevel 85 = .ok (.aload_n 0, 1) := by decide +kernel
theorem dX3_readLevel_86 : decode cX3_readLevel 86 = .ok (.getfield 12, 3) := by decide +kernel
theorem dX3_readLevel_89 : decode cX3_readLevel 89 = .ok (.getfield 45, 3) := by decide +kernel
theorem dX3_readLevel_92 : decode cX3_readLevel 92 = .ok (.iload 5, 2) := by decide +kernel
theorem dX3_readLevel_94 : decode cX3_readLevel 94 = .ok (.ineg, 1) := by decide +kernel
theorem dX3_readLevel_95 : decode cX3_readLevel 95 = .ok (.invokevirtual 70, 3) := by decide +kernel
theorem dX3_readLevel_98 : decode cX3_readLevel 98 = .ok (.iinc 4 1, 3) := by decide +kernel
theorem dX3_readLevel_101 : decode cX3_readLevel 101 = .ok (.goto (-62), 3) := by decide +kernel
theorem dX3_readLevel_104 : decode cX3_readLevel 104 = .ok (.iconst 1, 1) := by decide +kernel
theorem dX3_readLevel_105 : decode cX3_readLevel 105 = .ok (.ireturn, 1) := by decide +kernel
theorem dX3_readUnit_0 : decode cX3_readUnit 0 = .ok (.aload_n 0, 1) := by decide +kernel
theorem dX3_readUnit_1 : decode cX3_readUnit 1 = .ok (.invokevirtual 62, 3) := by decide +kernel
theorem dX3_readUnit_4 : decode cX3_readUnit 4 = .ok (.istore_n 2, 1) := by decide +kernel
theorem dX3_readUnit_5 : decode cX3_readUnit 5 = .ok (.iload_n 2, 1) := by decide +kernel
theorem dX3_readUnit_6 : decode cX3_readUnit 6 = .ok (.invokestatic 73, 3) := by decide +kernel
theorem dX3_readUnit_9 : decode cX3_readUnit 9 = .ok (.ifCond .eq 9, 3) := by decide +kernel
theorem dX3_readUnit_12 : decode cX3_readUnit 12 = .ok (.aload_n 0, 1) := by decide +kernel
theorem dX3_readUnit_13 : decode cX3_readUnit 13 = .ok (.invokevirtual 76, 3) := by decide +kernel
theorem dX3_readUnit_16 : decode cX3_readUnit 16 = .ok (.iconst 1, 1) := by decide +kernel
theorem dX3_readUnit_17 : decode cX3_readUnit 17 = .ok (.ireturn, 1) := by decide +kernel
theorem dX3_readUnit_18 : decode cX3_readUnit 18 = .ok (.iload_n 2, 1) := by decide +kernel
theorem dX3_readUnit_19 : decode cX3_readUnit 19 = .ok (.bipush 33, 2) := by decide +kernel
theorem dX3_readUnit_21 : decode cX3_readUnit 21 = .ok (.if_icmp .eq 9, 3) := by decide +kernel
theorem dX3_readUnit_24 : decode cX3_readUnit 24 = .ok (.iload_n 2, 1) := by decide +kernel
theorem dX3_readUnit_25 : decode cX3_readUnit 25 = .ok (.bipush 40, 2) := by decide +kernel
theorem dX3_readUnit_27 : decode cX3_readUnit 27 = .ok (.if_icmp .ne 25, 3) := by decide +kernel
theorem dX3_readUnit_30 : decode cX3_readUnit 30 = .ok (.iload_n 1, 1) := by decide +kernel
theorem dX3_readUnit_31 : decode cX3_readUnit 31 = .ok (.iconst 5, 1) := by decide +kernel
theorem dX3_readUnit_32 : decode cX3_readUnit 32 = .ok (.if_icmp .ge 18, 3) := by decide +kernel
theorem dX3_readUnit_35 : decode cX3_readUnit 35 = .ok (.aload_n 0, 1) := by decide +kernel
theorem dX3_readUnit_36 : decode cX3_readUnit 36 = .ok (.iload_n 2, 1) := by decide +kernel
theorem dX3_readUnit_37 : decode cX3_readUnit 37 = .ok (.iload_n 1, 1) := by decide +kernel
theorem dX3_readUnit_38 : decode cX3_readUnit 38 = .ok (.iconst 1, 1) := by decide +kernel
theorem dX3_readUnit_39 : decode cX3_readUnit 39 = .ok (.iadd, 1) := by decide +kernel
theorem dX3_readUnit_40 : decode cX3_readUnit 40 = .ok (.invokevirtual 79, 3) := by decide +kernel
theorem dX3_readUnit_43 : decode cX3_readUnit 43 = .ok (.ifCond .eq 7, 3) := by decide +kernel
theorem dX3_readUnit_46 : decode cX3_readUnit 46 = .ok (.iconst 1, 1) := by decide +kernel
theorem dX3_readUnit_47 : decode cX3_readUnit 47 = .ok (.goto 4, 3) := by decide +kernel
theorem dX3_readUnit_50 : decode cX3_readUnit 50 = .ok (.iconst 0, 1) := by decide +kernel
theorem dX3_readUnit_51 : decode cX3_readUnit 51 = .ok (.ireturn, 1) := by decide +kernel
theorem dX3_readUnit_52 : decode cX3_readUnit 52 = .ok (.iload_n 2, 1) := by decide +kernel
theorem dX3_readUnit_53 : decode cX3_readUnit 53 = .ok (.ifCond .ge 7, 3) := by decide +kernel
theorem dX3_readUnit_56 : decode cX3_readUnit 56 = .ok (.iconst (-1), 1) := by decide +kernel
theorem dX3_readUnit_57 : decode cX3_readUnit 57 = .ok (.goto 12, 3) := by decide +kernel
theorem dX3_readUnit_60 : decode cX3_readUnit 60 = .ok (.aload_n 0, 1) := by decide +kernel
theorem dX3_readUnit_61 : decode cX3_readUnit 61 = .ok (.getfield 29, 3) := by decide +kernel
theorem dX3_readUnit_64 : decode cX3_readUnit 64 = .ok (.iload_n 2, 1) := by decide +kernel
theorem dX3_readUnit_65 : decode cX3_readUnit 65 = .ok (.i2c, 1) := by decide +kernel
theorem dX3_readUnit_66 : decode cX3_readUnit 66 = .ok (.invokevirtual 82, 3) := by decide +kernel
theorem dX3_readUnit_69 : decode cX3_readUnit 69 = .ok (.istore_n 3, 1) := by decide +kernel
theorem dX3_readUnit_70 : decode cX3_readUnit 70 = .ok (.iload_n 3, 1) := by decide +kernel
theorem dX3_readUnit_71 : decode cX3_readUnit 71 = .ok (.ifCond .ge 5, 3) := by decide +kernel
theorem dX3_readUnit_74 : decode cX3_readUnit 74 = .ok (.iconst 0, 1) := by decide +kernel
theorem dX3_readUnit_75 : decode cX3_readUnit 75 = .ok (.ireturn, 1) := by decide +kernel
theorem dX3_readUnit_76 : decode cX3_readUnit 76 = .ok (.aload_n 0, 1) := by decide +kernel
theorem dX3_readUnit_77 : decode cX3_readUnit 77 = .ok (.getfield 12, 3) := by decide +kernel
theorem dX3_readUnit_80 : decode cX3_readUnit 80 = .ok (.getfield 45, 3) := by decide +kernel
theorem dX3_readUnit_83 : decode cX3_readUnit 83 = .ok (.iconst (-1), 1) := by decide +kernel
theorem dX3_readUnit_84 : decode cX3_readUnit 84 = .ok (.iload_n 3, 1) := by decide +kernel
theorem dX3_readUnit_85 : decode cX3_readUnit 85 = .ok (.isub, 1) := by decide +kernel
theorem dX3_readUnit_86 : decode cX3_readUnit 86 = .ok (.invokevirtual 70, 3) := by decide +kernel
theorem dX3_readUnit_89 : decode cX3_readUnit 89 = .ok (.aload_n 0, 1) := by decide +kernel
theorem dX3_readUnit_90 : decode cX3_readUnit 90 = .ok (.dup, 1) := by decide +kernel
theorem dX3_readUnit_91 : decode cX3_readUnit 91 = .ok (.getfield 41, 3) := by decide +kernel
theorem dX3_readUnit_94 : decode cX3_readUnit 94 = .ok (.iconst 1, 1) := by decide +kernel
theorem dX3_readUnit_95 : decode cX3_readUnit 95 = .ok (.iadd, 1) := by decide +kernel
theorem dX3_readUnit_96 : decode cX3_readUnit 96 = .ok (.putfield 41, 3) := by decide +kernel
theorem dX3_readUnit_99 : decode cX3_readUnit 99 = .ok (.iconst 1, 1) := by decide +kernel
theorem dX3_readUnit_100 : decode cX3_readUnit 100 = .ok (.ireturn, 1) := by decide +kernel
theorem dX3_readOpened_0 : decode cX3_readOpened 0 = .ok (.aload_n 0, 1) := by decide +kernel
theorem dX3_readOpened_1 : decode cX3_readOpened 1 = .ok (.dup, 1) := by decide +kernel
theorem dX3_readOpened_2 : decode cX3_readOpened 2 = .ok (.getfield 41, 3) := by decide +kernel
theorem dX3_readOpened_5 : decode cX3_readOpened 5 = .ok (.iconst 1, 1) := by decide +kernel
theorem dX3_readOpened_6 : decode cX3_readOpened 6 = .ok (.iadd, 1) := by decide +kernel
theorem dX3_readOpened_7 : decode cX3_readOpened 7 = .ok (.putfield 41, 3) := by decide +kernel
theorem dX3_readOpened_10 : decode cX3_readOpened 10 = .ok (.iload_n 1, 1) := by decide +kernel
theorem dX3_readOpened_11 : decode cX3_readOpened 11 = .ok (.bipush 33, 2) := by decide +kernel
theorem dX3_readOpened_13 : decode cX3_readOpened 13 = .ok (.if_icmp .ne 27, 3) := by decide +kernel
theorem dX3_readOpened_16 : decode cX3_readOpened 16 = .ok (.aload_n 0, 1) := by decide +kernel
theorem dX3_readOpened_17 : decode cX3_readOpened 17 = .ok (.iload_n 2, 1) := by decide +kernel
theorem dX3_readOpened_18 : decode cX3_readOpened 18 = .ok (.invokevirtual 58, 3) := by decide +kernel
theorem dX3_readOpened_21 : decode cX3_readOpened 21 = .ok (.ifCond .ne 5, 3) := by decide +kernel
theorem dX3_readOpened_24 : decode cX3_readOpened 24 = .ok (.iconst 0, 1) := by decide +kernel
theorem dX3_readOpened_25 : decode cX3_readOpened 25 = .ok (.ireturn, 1) := by decide +kernel
theorem dX3_readOpened_26 : decode cX3_readOpened 26 = .ok (.aload_n 0, 1) := by decide +kernel
theorem dX3_readOpened_27 : decode cX3_readOpened 27 = .ok (.getfield 12, 3) := by decide +kernel
theorem dX3_readOpened_30 : decode cX3_readOpened 30 = .ok (.getfield 45, 3) := by decide +kernel
theorem dX3_readOpened_33 : decode cX3_readOpened 33 = .ok (.iload_n 1, 1) := by decide +kernel
theorem dX3_readOpened_34 : decode cX3_readOpened 34 = .ok (.ineg, 1) := by decide +kernel
theorem dX3_readOpened_35 : decode cX3_readOpened 35 = .ok (.invokevirtual 70, 3) := by decide +kernel
theorem dX3_readOpened_38 : decode cX3_readOpened 38 = .ok (.iconst 1, 1) := by decide +kernel
theorem dX3_readOpened_39 : decode cX3_readOpened 39 = .ok (.ireturn, 1) := by decide +kernel
theorem dX3_readOpened_40 : decode cX3_readOpened 40 = .ok (.aload_n 0, 1) := by decide +kernel
theorem dX3_readOpened_41 : decode cX3_readOpened 41 = .ok (.iconst 0, 1) := by decide +kernel
theorem dX3_readOpened_42 : decode cX3_readOpened 42 = .ok (.iload_n 2, 1) := by decide +kernel
theorem dX3_readOpened_43 : decode cX3_readOpened 43 = .ok (.invokevirtual 51, 3) := by decide +kernel
theorem dX3_readOpened_46 : decode cX3_readOpened 46 = .ok (.ifCond .eq 12, 3) := by decide +kernel
theorem dX3_readOpened_49 : decode cX3_readOpened 49 = .ok (.aload_n 0, 1) := by decide +kernel
theorem dX3_readOpened_50 : decode cX3_readOpened 50 = .ok (.invokevirtual 62, 3) := by decide +kernel
theorem dX3_readOpened_53 : decode cX3_readOpened 53 = .ok (.bipush 41, 2) := by decide +kernel
theorem dX3_readOpened_55 : decode cX3_readOpened 55 = .ok (.if_icmp .eq 5, 3) := by decide +kernel
theorem dX3_readOpened_58 : decode cX3_readOpened 58 = .ok (.iconst 0, 1) := by decide +kernel
theorem dX3_readOpened_59 : decode cX3_readOpened 59 = .ok (.ireturn, 1) := by decide +kernel
theorem dX3_readOpened_60 : decode cX3_readOpened 60 = .ok (.aload_n 0, 1) := by decide +kernel
theorem dX3_readOpened_61 : decode cX3_readOpened 61 = .ok (.dup, 1) := by decide +kernel
theorem dX3_readOpened_62 : decode cX3_readOpened 62 = .ok (.getfield 41, 3) := by decide +kernel
theorem dX3_readOpened_65 : decode cX3_readOpened 65 = .ok (.iconst 1, 1) := by decide +kernel
theorem dX3_readOpened_66 : decode cX3_readOpened 66 = .ok (.iadd, 1) := by decide +kernel
theorem dX3_readOpened_67 : decode cX3_readOpened 67 = .ok (.putfield 41, 3) := by decide +kernel
theorem dX3_readOpened_70 : decode cX3_readOpened 70 = .ok (.iconst 1, 1) := by decide +kernel
theorem dX3_readOpened_71 : decode cX3_readOpened 71 = .ok (.ireturn, 1) := by decide +kernel
theorem dX3_readNumber_0 : decode cX3_readNumber 0 = .ok (.iconst 0, 1) := by decide +kernel
theorem dX3_readNumber_1 : decode cX3_readNumber 1 = .ok (.istore_n 1, 1) := by decide +kernel
theorem dX3_readNumber_2 : decode cX3_readNumber 2 = .ok (.iconst 0, 1) := by decide +kernel
theorem dX3_readNumber_3 : decode cX3_readNumber 3 = .ok (.istore_n 2, 1) := by decide +kernel
theorem dX3_readNumber_4 : decode cX3_readNumber 4 = .ok (.iload_n 2, 1) := by decide +kernel
theorem dX3_readNumber_5 : decode cX3_readNumber 5 = .ok (.iconst 4, 1) := by decide +kernel
theorem dX3_readNumber_6 : decode cX3_readNumber 6 = .ok (.if_icmp .ge 42, 3) := by decide +kernel
theorem dX3_readNumber_9 : decode cX3_readNumber 9 = .ok (.aload_n 0, 1) := by decide +kernel
theorem dX3_readNumber_10 : decode cX3_readNumber 10 = .ok (.invokevirtual 62, 3) := by decide +kernel
theorem dX3_readNumber_13 : decode cX3_readNumber 13 = .ok (.invokestatic 73, 3) := by decide +kernel
theorem dX3_readNumber_16 : decode cX3_readNumber 16 = .ok (.ifCond .eq 32, 3) := by decide +kernel
theorem dX3_readNumber_19 : decode cX3_readNumber 19 = .ok (.bipush 10, 2) := by decide +kernel
theorem dX3_readNumber_21 : decode cX3_readNumber 21 = .ok (.iload_n 1, 1) := by decide +kernel
theorem dX3_readNumber_22 : decode cX3_readNumber 22 = .ok (.imul, 1) := by decide +kernel
theorem dX3_readNumber_23 : decode cX3_readNumber 23 = .ok (.aload_n 0, 1) := by decide +kernel
theorem dX3_readNumber_24 : decode cX3_readNumber 24 = .ok (.invokevirtual 62, 3) := by decide +kernel
theorem dX3_readNumber_27 : decode cX3_readNumber 27 = .ok (.iadd, 1) := by decide +kernel
theorem dX3_readNumber_28 : decode cX3_readNumber 28 = .ok (.bipush 48, 2) := by decide +kernel
theorem dX3_readNumber_30 : decode cX3_readNumber 30 = .ok (.isub, 1) := by decide +kernel
theorem dX3_readNumber_31 : decode cX3_readNumber 31 = .ok (.istore_n 1, 1) := by decide +kernel
theorem dX3_readNumber_32 : decode cX3_readNumber 32 = .ok (.aload_n 0, 1) := by decide +kernel
theorem dX3_readNumber_33 : decode cX3_readNumber 33 = .ok (.dup, 1) := by decide +kernel
theorem dX3_readNumber_34 : decode cX3_readNumber 34 = .ok (.getfield 41, 3) := by decide +kernel
theorem dX3_readNumber_37 : decode cX3_readNumber 37 = .ok (.iconst 1, 1) := by decide +kernel
theorem dX3_readNumber_38 : decode cX3_readNumber 38 = .ok (.iadd, 1) := by decide +kernel
theorem dX3_readNumber_39 : decode cX3_readNumber 39 = .ok (.putfield 41, 3) := by decide +kernel
theorem dX3_readNumber_42 : decode cX3_readNumber 42 = .ok (.iinc 2 1, 3) := by decide +kernel
theorem dX3_readNumber_45 : decode cX3_readNumber 45 = .ok (.goto (-41), 3) := by decide +kernel
theorem dX3_readNumber_48 : decode cX3_readNumber 48 = .ok (.aload_n 0, 1) := by decide +kernel
theorem dX3_readNumber_49 : decode cX3_readNumber 49 = .ok (.getfield 12, 3) := by decide +kernel
theorem dX3_readNumber_52 : decode cX3_readNumber 52 = .ok (.getfield 45, 3) := by decide +kernel
theorem dX3_readNumber_55 : decode cX3_readNumber 55 = .ok (.iload_n 1, 1) := by decide +kernel
theorem dX3_readNumber_56 : decode cX3_readNumber 56 = .ok (.invokevirtual 70, 3) := by decide +kernel
theorem dX3_readNumber_59 : decode cX3_readNumber 59 = .ok (.return_, 1) := by decide +kernel
theorem dX3_isDigit_0 : decode cX3_isDigit 0 = .ok (.iload_n 0, 1) := by decide +kernel
theorem dX3_isDigit_1 : decode cX3_isDigit 1 = .ok (.bipush 48, 2) := by decide +kernel
theorem dX3_isDigit_3 : decode cX3_isDigit 3 = .ok (.if_icmp .lt 13, 3) := by decide +kernel
theorem dX3_isDigit_6 : decode cX3_isDigit 6 = .ok (.iload_n 0, 1) := by decide +kernel
theorem dX3_isDigit_7 : decode cX3_isDigit 7 = .ok (.bipush 57, 2) := by decide +kernel
theorem dX3_isDigit_9 : decode cX3_isDigit 9 = .ok (.if_icmp .gt 7, 3) := by decide +kernel
theorem dX3_isDigit_12 : decode cX3_isDigit 12 = .ok (.iconst 1, 1) := by decide +kernel
theorem dX3_isDigit_13 : decode cX3_isDigit 13 = .ok (.goto 4, 3) := by decide +kernel
theorem dX3_isDigit_16 : decode cX3_isDigit 16 = .ok (.iconst 0, 1) := by decide +kernel
theorem dX3_isDigit_17 : decode cX3_isDigit 17 = .ok (.ireturn, 1) := by decide +kernel
theorem dX3_levelOf_0 : decode cX3_levelOf 0 = .ok (.iload_n 0, 1) := by decide +kernel
theorem dX3_levelOf_1 : decode cX3_levelOf 1 = .ok (.lookupswitch 101 #[(37, 99), (38, 93), (42, 99), (43, 97), (45, 97), (47, 99), (60, 95), (61, 95), (62, 95), (124, 91)], 91) := by decide +kernel
theorem dX3_levelOf_92 : decode cX3_levelOf 92 = .ok (.iconst 0, 1) := by decide +kernel
theorem dX3_levelOf_93 : decode cX3_levelOf 93 = .ok (.ireturn, 1) := by decide +kernel
theorem dX3_levelOf_94 : decode cX3_levelOf 94 = .ok (.iconst 1, 1) := by decide +kernel
theorem dX3_levelOf_95 : decode cX3_levelOf 95 = .ok (.ireturn, 1) := by decide +kernel
theorem dX3_levelOf_96 : decode cX3_levelOf 96 = .ok (.iconst 2, 1) := by decide +kernel
theorem dX3_levelOf_97 : decode cX3_levelOf 97 = .ok (.ireturn, 1) := by decide +kernel
theorem dX3_levelOf_98 : decode cX3_levelOf 98 = .ok (.iconst 3, 1) := by decide +kernel
theorem dX3_levelOf_99 : decode cX3_levelOf 99 = .ok (.ireturn, 1) := by decide +kernel
theorem dX3_levelOf_100 : decode cX3_levelOf 100 = .ok (.iconst 4, 1) := by decide +kernel
theorem dX3_levelOf_101 : decode cX3_levelOf 101 = .ok (.ireturn, 1) := by decide +kernel
theorem dX3_levelOf_102 : decode cX3_levelOf 102 = .ok (.iconst (-1), 1) := by decide +kernel
theorem dX3_levelOf_103 : decode cX3_levelOf 103 = .ok (.ireturn, 1) := by decide +kernel
theorem dX3_next_0 : decode cX3_next 0 = .ok (.aload_n 0, 1) := by decide +kernel
theorem dX3_next_1 : decode cX3_next 1 = .ok (.getfield 23, 3) := by decide +kernel
theorem dX3_next_4 : decode cX3_next 4 = .ok (.aload_n 0, 1) := by decide +kernel
theorem dX3_next_5 : decode cX3_next 5 = .ok (.getfield 41, 3) := by decide +kernel
theorem dX3_next_8 : decode cX3_next 8 = .ok (.invokevirtual 87, 3) := by decide +kernel
theorem dX3_next_11 : decode cX3_next 11 = .ok (.ifCond .eq 18, 3) := by decide +kernel
theorem dX3_next_14 : decode cX3_next 14 = .ok (.aload_n 0, 1) := by decide +kernel
theorem dX3_next_15 : decode cX3_next 15 = .ok (.getfield 23, 3) := by decide +kernel
theorem dX3_next_18 : decode cX3_next 18 = .ok (.getfield 90, 3) := by decide +kernel
theorem dX3_next_21 : decode cX3_next 21 = .ok (.aload_n 0, 1) := by decide +kernel
theorem dX3_next_22 : decode cX3_next 22 = .ok (.getfield 41, 3) := by decide +kernel
theorem dX3_next_25 : decode cX3_next 25 = .ok (.iaload, 1) := by decide +kernel
theorem dX3_next_26 : decode cX3_next 26 = .ok (.goto 4, 3) := by decide +kernel
theorem dX3_next_29 : decode cX3_next 29 = .ok (.iconst (-1), 1) := by decide +kernel
theorem dX3_next_30 : decode cX3_next 30 = .ok (.ireturn, 1) := by decide +kernel
theorem dX4_init_0 : decode cX4_init 0 = .ok (.aload_n 0, 1) := by decide +kernel
theorem dX4_init_1 : decode cX4_init 1 = .ok (.invokespecial 1, 3) := by decide +kernel
theorem dX4_init_4 : decode cX4_init 4 = .ok (.aload_n 0, 1) := by decide +kernel
theorem dX4_init_5 : decode cX4_init 5 = .ok (.iconst 0, 1) := by decide +kernel
theorem dX4_init_6 : decode cX4_init 6 = .ok (.iload_n 1, 1) := by decide +kernel
theorem dX4_init_7 : decode cX4_init 7 = .ok (.invokestatic 7, 3) := by decide +kernel
theorem dX4_init_10 : decode cX4_init 10 = .ok (.newarray .int, 2) := by decide +kernel
theorem dX4_init_12 : decode cX4_init 12 = .ok (.putfield 13, 3) := by decide +kernel
theorem dX4_init_15 : decode cX4_init 15 = .ok (.return_, 1) := by decide +kernel
theorem dX4_has_0 : decode cX4_has 0 = .ok (.iload_n 1, 1) := by decide +kernel
theorem dX4_has_1 : decode cX4_has 1 = .ok (.ifCond .lt 15, 3) := by decide +kernel
theorem dX4_has_4 : decode cX4_has 4 = .ok (.iload_n 1, 1) := by decide +kernel
theorem dX4_has_5 : decode cX4_has 5 = .ok (.aload_n 0, 1) := by decide +kernel
theorem dX4_has_6 : decode cX4_has 6 = .ok (.getfield 19, 3) := by decide +kernel
theorem dX4_has_9 : decode cX4_has 9 = .ok (.if_icmp .ge 7, 3) := by decide +kernel
theorem dX4_has_12 : decode cX4_has 12 = .ok (.iconst 1, 1) := by decide +kernel
theorem dX4_has_13 : decode cX4_has 13 = .ok (.goto 4, 3) := by decide +kernel
theorem dX4_has_16 : decode cX4_has 16 = .ok (.iconst 0, 1) := by decide +kernel
theorem dX4_has_17 : decode cX4_has 17 = .ok (.ireturn, 1) := by decide +kernel
theorem dX4_holds_0 : decode cX4_holds 0 = .ok (.iload_n 1, 1) := by decide +kernel
theorem dX4_holds_1 : decode cX4_holds 1 = .ok (.ifCond .lt 29, 3) := by decide +kernel
theorem dX4_holds_4 : decode cX4_holds 4 = .ok (.iload_n 2, 1) := by decide +kernel
theorem dX4_holds_5 : decode cX4_holds 5 = .ok (.ifCond .lt 25, 3) := by decide +kernel
theorem dX4_holds_8 : decode cX4_holds 8 = .ok (.iload_n 1, 1) := by decide +kernel
theorem dX4_holds_9 : decode cX4_holds 9 = .ok (.aload_n 0, 1) := by decide +kernel
theorem dX4_holds_10 : decode cX4_holds 10 = .ok (.getfield 19, 3) := by decide +kernel
theorem dX4_holds_13 : decode cX4_holds 13 = .ok (.if_icmp .gt 17, 3) := by decide +kernel
theorem dX4_holds_16 : decode cX4_holds 16 = .ok (.iload_n 2, 1) := by decide +kernel
theorem dX4_holds_17 : decode cX4_holds 17 = .ok (.aload_n 0, 1) := by decide +kernel
theorem dX4_holds_18 : decode cX4_holds 18 = .ok (.getfield 19, 3) := by decide +kernel
theorem dX4_holds_21 : decode cX4_holds 21 = .ok (.iload_n 1, 1) := by decide +kernel
theorem dX4_holds_22 : decode cX4_holds 22 = .ok (.isub, 1) := by decide +kernel
theorem dX4_holds_23 : decode cX4_holds 23 = .ok (.if_icmp .gt 7, 3) := by decide +kernel
theorem dX4_holds_26 : decode cX4_holds 26 = .ok (.iconst 1, 1) := by decide +kernel
theorem dX4_holds_27 : decode cX4_holds 27 = .ok (.goto 4, 3) := by decide +kernel
theorem dX4_holds_30 : decode cX4_holds 30 = .ok (.iconst 0, 1) := by decide +kernel
theorem dX4_holds_31 : decode cX4_holds 31 = .ok (.ireturn, 1) := by decide +kernel
theorem dX4_get_0 : decode cX4_get 0 = .ok (.aload_n 0, 1) := by decide +kernel
theorem dX4_get_1 : decode cX4_get 1 = .ok (.iload_n 1, 1) := by decide +kernel
theorem dX4_get_2 : decode cX4_get 2 = .ok (.invokevirtual 23, 3) := by decide +kernel
theorem dX4_get_5 : decode cX4_get 5 = .ok (.ifCond .eq 12, 3) := by decide +kernel
theorem dX4_get_8 : decode cX4_get 8 = .ok (.aload_n 0, 1) := by decide +kernel
theorem dX4_get_9 : decode cX4_get 9 = .ok (.getfield 13, 3) := by decide +kernel
theorem dX4_get_12 : decode cX4_get 12 = .ok (.iload_n 1, 1) := by decide +kernel
theorem dX4_get_13 : decode cX4_get 13 = .ok (.iaload, 1) := by decide +kernel
theorem dX4_get_14 : decode cX4_get 14 = .ok (.goto 4, 3) := by decide +kernel
theorem dX4_get_17 : decode cX4_get 17 = .ok (.iconst 0, 1) := by decide +kernel
theorem dX4_get_18 : decode cX4_get 18 = .ok (.ireturn, 1) := by decide +kernel
theorem dX4_add_0 : decode cX4_add 0 = .ok (.aload_n 0, 1) := by decide +kernel
theorem dX4_add_1 : decode cX4_add 1 = .ok (.getfield 19, 3) := by decide +kernel
theorem dX4_add_4 : decode cX4_add 4 = .ok (.aload_n 0, 1) := by decide +kernel
theorem dX4_add_5 : decode cX4_add 5 = .ok (.getfield 13, 3) := by decide +kernel
theorem dX4_add_8 : decode cX4_add 8 = .ok (.arraylength, 1) := by decide +kernel
theorem dX4_add_9 : decode cX4_add 9 = .ok (.if_icmp .ge 23, 3) := by decide +kernel
theorem dX4_add_12 : decode cX4_add 12 = .ok (.aload_n 0, 1) := by decide +kernel
theorem dX4_add_13 : decode cX4_add 13 = .ok (.getfield 13, 3) := by decide +kernel
theorem dX4_add_16 : decode cX4_add 16 = .ok (.aload_n 0, 1) := by decide +kernel
theorem dX4_add_17 : decode cX4_add 17 = .ok (.getfield 19, 3) := by decide +kernel
theorem dX4_add_20 : decode cX4_add 20 = .ok (.iload_n 1, 1) := by decide +kernel
theorem dX4_add_21 : decode cX4_add 21 = .ok (.iastore, 1) := by decide +kernel
theorem dX4_add_22 : decode cX4_add 22 = .ok (.aload_n 0, 1) := by decide +kernel
theorem dX4_add_23 : decode cX4_add 23 = .ok (.dup, 1) := by decide +kernel
theorem dX4_add_24 : decode cX4_add 24 = .ok (.getfield 19, 3) := by decide +kernel
theorem dX4_add_27 : decode cX4_add 27 = .ok (.iconst 1, 1) := by decide +kernel
theorem dX4_add_28 : decode cX4_add 28 = .ok (.iadd, 1) := by decide +kernel
theorem dX4_add_29 : decode cX4_add 29 = .ok (.putfield 19, 3) := by decide +kernel
theorem dX4_add_32 : decode cX4_add 32 = .ok (.return_, 1) := by decide +kernel
theorem dX4_clear_0 : decode cX4_clear 0 = .ok (.aload_n 0, 1) := by decide +kernel
theorem dX4_clear_1 : decode cX4_clear 1 = .ok (.iconst 0, 1) := by decide +kernel
theorem dX4_clear_2 : decode cX4_clear 2 = .ok (.putfield 19, 3) := by decide +kernel
theorem dX4_clear_5 : decode cX4_clear 5 = .ok (.return_, 1) := by decide +kernel
theorem dX4_copyFrom_0 : decode cX4_copyFrom 0 = .ok (.aload_n 0, 1) := by decide +kernel
theorem dX4_copyFrom_1 : decode cX4_copyFrom 1 = .ok (.aload_n 1, 1) := by decide +kernel
theorem dX4_copyFrom_2 : decode cX4_copyFrom 2 = .ok (.getfield 19, 3) := by decide +kernel
theorem dX4_copyFrom_5 : decode cX4_copyFrom 5 = .ok (.aload_n 0, 1) := by decide +kernel
theorem dX4_copyFrom_6 : decode cX4_copyFrom 6 = .ok (.getfield 13, 3) := by decide +kernel
theorem dX4_copyFrom_9 : decode cX4_copyFrom 9 = .ok (.arraylength, 1) := by decide +kernel
theorem dX4_copyFrom_10 : decode cX4_copyFrom 10 = .ok (.invokestatic 27, 3) := by decide +kernel
theorem dX4_copyFrom_13 : decode cX4_copyFrom 13 = .ok (.putfield 19, 3) := by decide +kernel
theorem dX4_copyFrom_16 : decode cX4_copyFrom 16 = .ok (.aload_n 1, 1) := by decide +kernel
theorem dX4_copyFrom_17 : decode cX4_copyFrom 17 = .ok (.getfield 13, 3) := by decide +kernel
theorem dX4_copyFrom_20 : decode cX4_copyFrom 20 = .ok (.iconst 0, 1) := by decide +kernel
theorem dX4_copyFrom_21 : decode cX4_copyFrom 21 = .ok (.aload_n 0, 1) := by decide +kernel
theorem dX4_copyFrom_22 : decode cX4_copyFrom 22 = .ok (.getfield 13, 3) := by decide +kernel
theorem dX4_copyFrom_25 : decode cX4_copyFrom 25 = .ok (.iconst 0, 1) := by decide +kernel
theorem dX4_copyFrom_26 : decode cX4_copyFrom 26 = .ok (.aload_n 0, 1) := by decide +kernel
theorem dX4_copyFrom_27 : decode cX4_copyFrom 27 = .ok (.getfield 19, 3) := by decide +kernel
theorem dX4_copyFrom_30 : decode cX4_copyFrom 30 = .ok (.invokestatic 30, 3) := by decide +kernel
theorem dX4_copyFrom_33 : decode cX4_copyFrom 33 = .ok (.return_, 1) := by decide +kernel
theorem dX5_init_0 : decode cX5_init 0 = .ok (.aload_n 0, 1) := by decide +kernel
theorem dX5_init_1 : decode cX5_init 1 = .ok (.invokespecial 3, 3) := by decide +kernel
theorem dX5_init_4 : decode cX5_init 4 = .ok (.aload_n 0, 1) := by decide +kernel
theorem dX5_init_5 : decode cX5_init 5 = .ok (.new 9, 3) := by decide +kernel
theorem dX5_init_8 : decode cX5_init 8 = .ok (.dup, 1) := by decide +kernel
theorem dX5_init_9 : decode cX5_init 9 = .ok (.bipush 40, 2) := by decide +kernel
theorem dX5_init_11 : decode cX5_init 11 = .ok (.invokespecial 11, 3) := by decide +kernel
theorem dX5_init_14 : decode cX5_init 14 = .ok (.putfield 14, 3) := by decide +kernel
theorem dX5_init_17 : decode cX5_init 17 = .ok (.return_, 1) := by decide +kernel
theorem dX5_isMissing_0 : decode cX5_isMissing 0 = .ok (.aload_n 0, 1) := by decide +kernel
theorem dX5_isMissing_1 : decode cX5_isMissing 1 = .ok (.getfield 20, 3) := by decide +kernel
theorem dX5_isMissing_4 : decode cX5_isMissing 4 = .ok (.ifCond .ne 7, 3) := by decide +kernel
theorem dX5_isMissing_7 : decode cX5_isMissing 7 = .ok (.iconst 1, 1) := by decide +kernel
theorem dX5_isMissing_8 : decode cX5_isMissing 8 = .ok (.goto 4, 3) := by decide +kernel
theorem dX5_isMissing_11 : decode cX5_isMissing 11 = .ok (.iconst 0, 1) := by decide +kernel
theorem dX5_isMissing_12 : decode cX5_isMissing 12 = .ok (.ireturn, 1) := by decide +kernel
theorem dX5_begin_0 : decode cX5_begin 0 = .ok (.aload_n 0, 1) := by decide +kernel
theorem dX5_begin_1 : decode cX5_begin 1 = .ok (.iload_n 1, 1) := by decide +kernel
theorem dX5_begin_2 : decode cX5_begin 2 = .ok (.putfield 20, 3) := by decide +kernel
theorem dX5_begin_5 : decode cX5_begin 5 = .ok (.aload_n 0, 1) := by decide +kernel
theorem dX5_begin_6 : decode cX5_begin 6 = .ok (.getfield 14, 3) := by decide +kernel
theorem dX5_begin_9 : decode cX5_begin 9 = .ok (.invokevirtual 24, 3) := by decide +kernel
theorem dX5_begin_12 : decode cX5_begin 12 = .ok (.iconst 0, 1) := by decide +kernel
theorem dX5_begin_13 : decode cX5_begin 13 = .ok (.istore_n 3, 1) := by decide +kernel
theorem dX5_begin_14 : decode cX5_begin 14 = .ok (.iload_n 3, 1) := by decide +kernel
theorem dX5_begin_15 : decode cX5_begin 15 = .ok (.iload_n 2, 1) := by decide +kernel
theorem dX5_begin_16 : decode cX5_begin 16 = .ok (.if_icmp .ge 17, 3) := by decide +kernel
theorem dX5_begin_19 : decode cX5_begin 19 = .ok (.aload_n 0, 1) := by decide +kernel
theorem dX5_begin_20 : decode cX5_begin 20 = .ok (.getfield 14, 3) := by decide +kernel
theorem dX5_begin_23 : decode cX5_begin 23 = .ok (.iconst 0, 1) := by decide +kernel
theorem dX5_begin_24 : decode cX5_begin 24 = .ok (.invokevirtual 27, 3) := by decide +kernel
theorem dX5_begin_27 : decode cX5_begin 27 = .ok (.iinc 3 1, 3) := by decide +kernel
theorem dX5_begin_30 : decode cX5_begin 30 = .ok (.goto (-16), 3) := by decide +kernel
theorem dX5_begin_33 : decode cX5_begin 33 = .ok (.return_, 1) := by decide +kernel
theorem dX5_write_0 : decode cX5_write 0 = .ok (.aload_n 0, 1) := by decide +kernel
theorem dX5_write_1 : decode cX5_write 1 = .ok (.getfield 14, 3) := by decide +kernel
theorem dX5_write_4 : decode cX5_write 4 = .ok (.iload_n 1, 1) := by decide +kernel
theorem dX5_write_5 : decode cX5_write 5 = .ok (.invokevirtual 30, 3) := by decide +kernel
theorem dX5_write_8 : decode cX5_write 8 = .ok (.ifCond .eq 41, 3) := by decide +kernel
theorem dX5_write_11 : decode cX5_write 11 = .ok (.aload_n 0, 1) := by decide +kernel
theorem dX5_write_12 : decode cX5_write 12 = .ok (.getfield 14, 3) := by decide +kernel
theorem dX5_write_15 : decode cX5_write 15 = .ok (.getfield 34, 3) := by decide +kernel
theorem dX5_write_18 : decode cX5_write 18 = .ok (.iload_n 1, 1) := by decide +kernel
theorem dX5_write_19 : decode cX5_write 19 = .ok (.aload_n 0, 1) := by decide +kernel
theorem dX5_write_20 : decode cX5_write 20 = .ok (.getfield 20, 3) := by decide +kernel
theorem dX5_write_23 : decode cX5_write 23 = .ok (.bipush 8, 2) := by decide +kernel
theorem dX5_write_25 : decode cX5_write 25 = .ok (.if_icmp .ne 8, 3) := by decide +kernel
theorem dX5_write_28 : decode cX5_write 28 = .ok (.iload_n 2, 1) := by decide +kernel
theorem dX5_write_29 : decode cX5_write 29 = .ok (.i2b, 1) := by decide +kernel
theorem dX5_write_30 : decode cX5_write 30 = .ok (.goto 18, 3) := by decide +kernel
theorem dX5_write_33 : decode cX5_write 33 = .ok (.aload_n 0, 1) := by decide +kernel
theorem dX5_write_34 : decode cX5_write 34 = .ok (.getfield 20, 3) := by decide +kernel
theorem dX5_write_37 : decode cX5_write 37 = .ok (.bipush 16, 2) := by decide +kernel
theorem dX5_write_39 : decode cX5_write 39 = .ok (.if_icmp .ne 8, 3) := by decide +kernel
theorem dX5_write_42 : decode cX5_write 42 = .ok (.iload_n 2, 1) := by decide +kernel
theorem dX5_write_43 : decode cX5_write 43 = .ok (.i2s, 1) := by decide +kernel
theorem dX5_write_44 : decode cX5_write 44 = .ok (.goto 4, 3) := by decide +kernel
theorem dX5_write_47 : decode cX5_write 47 = .ok (.iload_n 2, 1) := by decide +kernel
theorem dX5_write_48 : decode cX5_write 48 = .ok (.iastore, 1) := by decide +kernel
theorem dX5_write_49 : decode cX5_write 49 = .ok (.return_, 1) := by decide +kernel
theorem dX6_init_0 : decode cX6_init 0 = .ok (.aload_n 0, 1) := by decide +kernel
theorem dX6_init_1 : decode cX6_init 1 = .ok (.invokespecial 3, 3) := by decide +kernel
theorem dX6_init_4 : decode cX6_init 4 = .ok (.aload_n 0, 1) := by decide +kernel
theorem dX6_init_5 : decode cX6_init 5 = .ok (.new 9, 3) := by decide +kernel
theorem dX6_init_8 : decode cX6_init 8 = .ok (.dup, 1) := by decide +kernel
theorem dX6_init_9 : decode cX6_init 9 = .ok (.invokespecial 11, 3) := by decide +kernel
theorem dX6_init_12 : decode cX6_init 12 = .ok (.putfield 12, 3) := by decide +kernel
theorem dX6_init_15 : decode cX6_init 15 = .ok (.aload_n 0, 1) := by decide +kernel
theorem dX6_init_16 : decode cX6_init 16 = .ok (.new 18, 3) := by decide +kernel
theorem dX6_init_19 : decode cX6_init 19 = .ok (.dup, 1) := by decide +kernel
theorem dX6_init_20 : decode cX6_init 20 = .ok (.invokespecial 20, 3) := by decide +kernel
theorem dX6_init_23 : decode cX6_init 23 = .ok (.putfield 21, 3) := by decide +kernel
theorem dX6_init_26 : decode cX6_init 26 = .ok (.aload_n 0, 1) := by decide +kernel
theorem dX6_init_27 : decode cX6_init 27 = .ok (.new 25, 3) := by decide +kernel
theorem dX6_init_30 : decode cX6_init 30 = .ok (.dup, 1) := by decide +kernel
theorem dX6_init_31 : decode cX6_init 31 = .ok (.bipush 50, 2) := by decide +kernel
theorem dX6_init_33 : decode cX6_init 33 = .ok (.invokespecial 27, 3) := by decide +kernel
theorem dX6_init_36 : decode cX6_init 36 = .ok (.putfield 30, 3) := by decide +kernel
theorem dX6_init_39 : decode cX6_init 39 = .ok (.aload_n 0, 1) := by decide +kernel
theorem dX6_init_40 : decode cX6_init 40 = .ok (.new 25, 3) := by decide +kernel
theorem dX6_init_43 : decode cX6_init 43 = .ok (.dup, 1) := by decide +kernel
theorem dX6_init_44 : decode cX6_init 44 = .ok (.bipush 20, 2) := by decide +kernel
theorem dX6_init_46 : decode cX6_init 46 = .ok (.invokespecial 27, 3) := by decide +kernel
theorem dX6_init_49 : decode cX6_init 49 = .ok (.putfield 34, 3) := by decide +kernel
theorem dX6_init_52 : decode cX6_init 52 = .ok (.aload_n 0, 1) := by decide +kernel
theorem dX6_init_53 : decode cX6_init 53 = .ok (.bipush 6, 2) := by decide +kernel
theorem dX6_init_55 : decode cX6_init 55 = .ok (.newarray .int, 2) := by decide +kernel
theorem dX6_init_57 : decode cX6_init 57 = .ok (.putfield 37, 3) := by decide +kernel
theorem dX6_init_60 : decode cX6_init 60 = .ok (.aload_n 0, 1) := by decide +kernel
theorem dX6_init_61 : decode cX6_init 61 = .ok (.iconst 1, 1) := by decide +kernel
theorem dX6_init_62 : decode cX6_init 62 = .ok (.putfield 41, 3) := by decide +kernel
theorem dX6_init_65 : decode cX6_init 65 = .ok (.iconst 0, 1) := by decide +kernel
theorem dX6_init_66 : decode cX6_init 66 = .ok (.istore_n 1, 1) := by decide +kernel
theorem dX6_init_67 : decode cX6_init 67 = .ok (.iload_n 1, 1) := by decide +kernel
theorem dX6_init_68 : decode cX6_init 68 = .ok (.bipush 6, 2) := by decide +kernel
theorem dX6_init_70 : decode cX6_init 70 = .ok (.if_icmp .ge 17, 3) := by decide +kernel
theorem dX6_init_73 : decode cX6_init 73 = .ok (.aload_n 0, 1) := by decide +kernel
theorem dX6_init_74 : decode cX6_init 74 = .ok (.getfield 37, 3) := by decide +kernel
theorem dX6_init_77 : decode cX6_init 77 = .ok (.iload_n 1, 1) := by decide +kernel
theorem dX6_init_78 : decode cX6_init 78 = .ok (.bipush 10, 2) := by decide +kernel
theorem dX6_init_80 : decode cX6_init 80 = .ok (.iastore, 1) := by decide +kernel
theorem dX6_init_81 : decode cX6_init 81 = .ok (.iinc 1 1, 3) := by decide +kernel
theorem dX6_init_84 : decode cX6_init 84 = .ok (.goto (-17), 3) := by decide +kernel
theorem dX6_init_87 : decode cX6_init 87 = .ok (.return_, 1) := by decide +kernel
theorem dX6_copyFrom_0 : decode cX6_copyFrom 0 = .ok (.aload_n 0, 1) := by decide +kernel
theorem dX6_copyFrom_1 : decode cX6_copyFrom 1 = .ok (.getfield 12, 3) := by decide +kernel
theorem dX6_copyFrom_4 : decode cX6_copyFrom 4 = .ok (.aload_n 1, 1) := by decide +kernel
theorem dX6_copyFrom_5 : decode cX6_copyFrom 5 = .ok (.getfield 12, 3) := by decide +kernel
theorem dX6_copyFrom_8 : decode cX6_copyFrom 8 = .ok (.invokevirtual 45, 3) := by decide +kernel
theorem dX6_copyFrom_11 : decode cX6_copyFrom 11 = .ok (.aload_n 0, 1) := by decide +kernel
theorem dX6_copyFrom_12 : decode cX6_copyFrom 12 = .ok (.getfield 21, 3) := by decide +kernel
theorem dX6_copyFrom_15 : decode cX6_copyFrom 15 = .ok (.aload_n 1, 1) := by decide +kernel
theorem dX6_copyFrom_16 : decode cX6_copyFrom 16 = .ok (.getfield 21, 3) := by decide +kernel
theorem dX6_copyFrom_19 : decode cX6_copyFrom 19 = .ok (.invokevirtual 49, 3) := by decide +kernel
theorem dX6_copyFrom_22 : decode cX6_copyFrom 22 = .ok (.aload_n 0, 1) := by decide +kernel
theorem dX6_copyFrom_23 : decode cX6_copyFrom 23 = .ok (.getfield 30, 3) := by decide +kernel
theorem dX6_copyFrom_26 : decode cX6_copyFrom 26 = .ok (.aload_n 1, 1) := by decide +kernel
theorem dX6_copyFrom_27 : decode cX6_copyFrom 27 = .ok (.getfield 30, 3) := by decide +kernel
theorem dX6_copyFrom_30 : decode cX6_copyFrom 30 = .ok (.invokevirtual 52, 3) := by decide +kernel
theorem dX6_copyFrom_33 : decode cX6_copyFrom 33 = .ok (.aload_n 0, 1) := by decide +kernel
theorem dX6_copyFrom_34 : decode cX6_copyFrom 34 = .ok (.getfield 34, 3) := by decide +kernel
theorem dX6_copyFrom_37 : decode cX6_copyFrom 37 = .ok (.aload_n 1, 1) := by decide +kernel
theorem dX6_copyFrom_38 : decode cX6_copyFrom 38 = .ok (.getfield 34, 3) := by decide +kernel
theorem dX6_copyFrom_41 : decode cX6_copyFrom 41 = .ok (.invokevirtual 52, 3) := by decide +kernel
theorem dX6_copyFrom_44 : decode cX6_copyFrom 44 = .ok (.aload_n 1, 1) := by decide +kernel
theorem dX6_copyFrom_45 : decode cX6_copyFrom 45 = .ok (.getfield 37, 3) := by decide +kernel
theorem dX6_copyFrom_48 : decode cX6_copyFrom 48 = .ok (.iconst 0, 1) := by decide +kernel
theorem dX6_copyFrom_49 : decode cX6_copyFrom 49 = .ok (.aload_n 0, 1) := by decide +kernel
theorem dX6_copyFrom_50 : decode cX6_copyFrom 50 = .ok (.getfield 37, 3) := by decide +kernel
theorem dX6_copyFrom_53 : decode cX6_copyFrom 53 = .ok (.iconst 0, 1) := by decide +kernel
theorem dX6_copyFrom_54 : decode cX6_copyFrom 54 = .ok (.bipush 6, 2) := by decide +kernel
theorem dX6_copyFrom_56 : decode cX6_copyFrom 56 = .ok (.invokestatic 55, 3) := by decide +kernel
theorem dX6_copyFrom_59 : decode cX6_copyFrom 59 = .ok (.aload_n 0, 1) := by decide +kernel
theorem dX6_copyFrom_60 : decode cX6_copyFrom 60 = .ok (.aload_n 1, 1) := by decide +kernel
theorem dX6_copyFrom_61 : decode cX6_copyFrom 61 = .ok (.getfield 41, 3) := by decide +kernel
theorem dX6_copyFrom_64 : decode cX6_copyFrom 64 = .ok (.putfield 41, 3) := by decide +kernel
theorem dX6_copyFrom_67 : decode cX6_copyFrom 67 = .ok (.return_, 1) := by decide +kernel
theorem dX6_draw_0 : decode cX6_draw 0 = .ok (.aload_n 0, 1) := by decide +kernel
theorem dX6_draw_1 : decode cX6_draw 1 = .ok (.aload_n 0, 1) := by decide +kernel
theorem dX6_draw_2 : decode cX6_draw 2 = .ok (.getfield 41, 3) := by decide +kernel
theorem dX6_draw_5 : decode cX6_draw 5 = .ok (.ldc 61, 2) := by decide +kernel
theorem dX6_draw_7 : decode cX6_draw 7 = .ok (.imul, 1) := by decide +kernel
theorem dX6_draw_8 : decode cX6_draw 8 = .ok (.sipush 12345, 3) := by decide +kernel
theorem dX6_draw_11 : decode cX6_draw 11 = .ok (.iadd, 1) := by decide +kernel
theorem dX6_draw_12 : decode cX6_draw 12 = .ok (.putfield 41, 3) := by decide +kernel
theorem dX6_draw_15 : decode cX6_draw 15 = .ok (.aload_n 0, 1) := by decide +kernel
theorem dX6_draw_16 : decode cX6_draw 16 = .ok (.getfield 41, 3) := by decide +kernel
theorem dX6_draw_19 : decode cX6_draw 19 = .ok (.bipush 8, 2) := by decide +kernel
theorem dX6_draw_21 : decode cX6_draw 21 = .ok (.iushr, 1) := by decide +kernel
theorem dX6_draw_22 : decode cX6_draw 22 = .ok (.ireturn, 1) := by decide +kernel
theorem dX7_init_0 : decode cX7_init 0 = .ok (.aload_n 0, 1) := by decide +kernel
theorem dX7_init_1 : decode cX7_init 1 = .ok (.invokespecial 3, 3) := by decide +kernel
theorem dX7_init_4 : decode cX7_init 4 = .ok (.aload_n 0, 1) := by decide +kernel
theorem dX7_init_5 : decode cX7_init 5 = .ok (.new 9, 3) := by decide +kernel
theorem dX7_init_8 : decode cX7_init 8 = .ok (.dup, 1) := by decide +kernel
theorem dX7_init_9 : decode cX7_init 9 = .ok (.bipush 50, 2) := by decide +kernel
theorem dX7_init_11 : decode cX7_init 11 = .ok (.invokespecial 11, 3) := by decide +kernel
theorem dX7_init_14 : decode cX7_init 14 = .ok (.putfield 14, 3) := by decide +kernel
theorem dX7_init_17 : decode cX7_init 17 = .ok (.aload_n 0, 1) := by decide +kernel
theorem dX7_init_18 : decode cX7_init 18 = .ok (.bipush 50, 2) := by decide +kernel
theorem dX7_init_20 : decode cX7_init 20 = .ok (.newarray .int, 2) := by decide +kernel
theorem dX7_init_22 : decode cX7_init 22 = .ok (.putfield 20, 3) := by decide +kernel
theorem dX7_init_25 : decode cX7_init 25 = .ok (.return_, 1) := by decide +kernel
theorem dX7_isMissing_0 : decode cX7_isMissing 0 = .ok (.aload_n 0, 1) := by decide +kernel
theorem dX7_isMissing_1 : decode cX7_isMissing 1 = .ok (.getfield 14, 3) := by decide +kernel
theorem dX7_isMissing_4 : decode cX7_isMissing 4 = .ok (.getfield 24, 3) := by decide +kernel
theorem dX7_isMissing_7 : decode cX7_isMissing 7 = .ok (.ifCond .ne 7, 3) := by decide +kernel
theorem dX7_isMissing_10 : decode cX7_isMissing 10 = .ok (.iconst 1, 1) := by decide +kernel
theorem dX7_isMissing_11 : decode cX7_isMissing 11 = .ok (.goto 4, 3) := by decide +kernel
theorem dX7_isMissing_14 : decode cX7_isMissing 14 = .ok (.iconst 0, 1) := by decide +kernel
theorem dX7_isMissing_15 : decode cX7_isMissing 15 = .ok (.ireturn, 1) := by decide +kernel
theorem dX7_copyFrom_0 : decode cX7_copyFrom 0 = .ok (.aload_n 0, 1) := by decide +kernel
theorem dX7_copyFrom_1 : decode cX7_copyFrom 1 = .ok (.getfield 14, 3) := by decide +kernel
theorem dX7_copyFrom_4 : decode cX7_copyFrom 4 = .ok (.aload_n 1, 1) := by decide +kernel
theorem dX7_copyFrom_5 : decode cX7_copyFrom 5 = .ok (.getfield 14, 3) := by decide +kernel
theorem dX7_copyFrom_8 : decode cX7_copyFrom 8 = .ok (.invokevirtual 28, 3) := by decide +kernel
theorem dX7_copyFrom_11 : decode cX7_copyFrom 11 = .ok (.return_, 1) := by decide +kernel
theorem dX7_value_0 : decode cX7_value 0 = .ok (.aload_n 0, 1) := by decide +kernel
theorem dX7_value_1 : decode cX7_value 1 = .ok (.getfield 14, 3) := by decide +kernel
theorem dX7_value_4 : decode cX7_value 4 = .ok (.getfield 32, 3) := by decide +kernel
theorem dX7_value_7 : decode cX7_value 7 = .ok (.astore 4, 2) := by decide +kernel
theorem dX7_value_9 : decode cX7_value 9 = .ok (.aload_n 0, 1) := by decide +kernel
theorem dX7_value_10 : decode cX7_value 10 = .ok (.getfield 14, 3) := by decide +kernel
theorem dX7_value_13 : decode cX7_value 13 = .ok (.getfield 24, 3) := by decide +kernel
theorem dX7_value_16 : decode cX7_value 16 = .ok (.istore 5, 2) := by decide +kernel
theorem dX7_value_18 : decode cX7_value 18 = .ok (.iconst 0, 1) := by decide +kernel
theorem dX7_value_19 : decode cX7_value 19 = .ok (.istore 6, 2) := by decide +kernel
theorem dX7_value_21 : decode cX7_value 21 = .ok (.iconst 0, 1) := by decide +kernel
theorem dX7_value_22 : decode cX7_value 22 = .ok (.istore 7, 2) := by decide +kernel
theorem dX7_value_24 : decode cX7_value 24 = .ok (.iload 7, 2) := by decide +kernel
theorem dX7_value_26 : decode cX7_value 26 = .ok (.iload 5, 2) := by decide +kernel
theorem dX7_value_28 : decode cX7_value 28 = .ok (.if_icmp .ge 397, 3) := by decide +kernel
theorem dX7_value_31 : decode cX7_value 31 = .ok (.aload 4, 2) := by decide +kernel
theorem dX7_value_33 : decode cX7_value 33 = .ok (.iload 7, 2) := by decide +kernel
theorem dX7_value_35 : decode cX7_value 35 = .ok (.iaload, 1) := by decide +kernel
theorem dX7_value_36 : decode cX7_value 36 = .ok (.istore 8, 2) := by decide +kernel
theorem dX7_value_38 : decode cX7_value 38 = .ok (.iload 8, 2) := by decide +kernel
theorem dX7_value_40 : decode cX7_value 40 = .ok (.bipush (-3), 2) := by decide +kernel
theorem dX7_value_42 : decode cX7_value 42 = .ok (.if_icmp .lt 55, 3) := by decide +kernel
theorem dX7_value_45 : decode cX7_value 45 = .ok (.iload 6, 2) := by decide +kernel
theorem dX7_value_47 : decode cX7_value 47 = .ok (.bipush 50, 2) := by decide +kernel
theorem dX7_value_49 : decode cX7_value 49 = .ok (.if_icmp .ge 48, 3) := by decide +kernel
theorem dX7_value_52 : decode cX7_value 52 = .ok (.aload_n 0, 1) := by decide +kernel
theorem dX7_value_53 : decode cX7_value 53 = .ok (.getfield 20, 3) := by decide +kernel
theorem dX7_value_56 : decode cX7_value 56 = .ok (.iload 6, 2) := by decide +kernel
theorem dX7_value_58 : decode cX7_value 58 = .ok (.iload 8, 2) := by decide +kernel
theorem dX7_value_60 : decode cX7_value 60 = .ok (.ifCond .lt 8, 3) := by decide +kernel
theorem dX7_value_63 : decode cX7_value 63 = .ok (.iload 8, 2) := by decide +kernel
theorem dX7_value_65 : decode cX7_value 65 = .ok (.goto 25, 3) := by decide +kernel
theorem dX7_value_68 : decode cX7_value 68 = .ok (.iload 8, 2) := by decide +kernel
theorem dX7_value_70 : decode cX7_value 70 = .ok (.iconst (-1), 1) := by decide +kernel
theorem dX7_value_71 : decode cX7_value 71 = .ok (.if_icmp .ne 7, 3) := by decide +kernel
theorem dX7_value_74 : decode cX7_value 74 = .ok (.iload_n 1, 1) := by decide +kernel
theorem dX7_value_75 : decode cX7_value 75 = .ok (.goto 15, 3) := by decide +kernel
theorem dX7_value_78 : decode cX7_value 78 = .ok (.iload 8, 2) := by decide +kernel
theorem dX7_value_80 : decode cX7_value 80 = .ok (.bipush (-2), 2) := by decide +kernel
theorem dX7_value_82 : decode cX7_value 82 = .ok (.if_icmp .ne 7, 3) := by decide +kernel
theorem dX7_value_85 : decode cX7_value 85 = .ok (.iload_n 2, 1) := by decide +kernel
theorem dX7_value_86 : decode cX7_value 86 = .ok (.goto 4, 3) := by decide +kernel
theorem dX7_value_89 : decode cX7_value 89 = .ok (.iload_n 3, 1) := by decide +kernel
theorem dX7_value_90 : decode cX7_value 90 = .ok (.iastore, 1) := by decide +kernel
theorem dX7_value_91 : decode cX7_value 91 = .ok (.iinc 6 1, 3) := by decide +kernel
theorem dX7_value_94 : decode cX7_value 94 = .ok (.goto 325, 3) := by decide +kernel
theorem dX7_value_97 : decode cX7_value 97 = .ok (.iload 8, 2) := by decide +kernel
theorem dX7_value_99 : decode cX7_value 99 = .ok (.bipush (-33), 2) := by decide +kernel
theorem dX7_value_101 : decode cX7_value 101 = .ok (.if_icmp .ne 38, 3) := by decide +kernel
theorem dX7_value_104 : decode cX7_value 104 = .ok (.iload 6, 2) := by decide +kernel
theorem dX7_value_106 : decode cX7_value 106 = .ok (.iconst 1, 1) := by decide +kernel
theorem dX7_value_107 : decode cX7_value 107 = .ok (.if_icmp .lt 32, 3) := by decide +kernel
theorem dX7_value_110 : decode cX7_value 110 = .ok (.aload_n 0, 1) := by decide +kernel
theorem dX7_value_111 : decode cX7_value 111 = .ok (.getfield 20, 3) := by decide +kernel
theorem dX7_value_114 : decode cX7_value 114 = .ok (.iload 6, 2) := by decide +kernel
theorem dX7_value_116 : decode cX7_value 116 = .ok (.iconst 1, 1) := by decide +kernel
theorem dX7_value_117 : decode cX7_value 117 = .ok (.isub, 1) := by decide +kernel
theorem dX7_value_118 : decode cX7_value 118 = .ok (.aload_n 0, 1) := by decide +kernel
theorem dX7_value_119 : decode cX7_value 119 = .ok (.getfield 20, 3) := by decide +kernel
theorem dX7_value_122 : decode cX7_value 122 = .ok (.iload 6, 2) := by decide +kernel
theorem dX7_value_124 : decode cX7_value 124 = .ok (.iconst 1, 1) := by decide +kernel
theorem dX7_value_125 : decode cX7_value 125 = .ok (.isub, 1) := by decide +kernel
theorem dX7_value_126 : decode cX7_value 126 = .ok (.iaload, 1) := by decide +kernel
theorem dX7_value_127 : decode cX7_value 127 = .ok (.ifCond .ne 7, 3) := by decide +kernel
theorem dX7_value_130 : decode cX7_value 130 = .ok (.iconst 1, 1) := by decide +kernel
theorem dX7_value_131 : decode cX7_value 131 = .ok (.goto 4, 3) := by decide +kernel
theorem dX7_value_134 : decode cX7_value 134 = .ok (.iconst 0, 1) := by decide +kernel
theorem dX7_value_135 : decode cX7_value 135 = .ok (.iastore, 1) := by decide +kernel
theorem dX7_value_136 : decode cX7_value 136 = .ok (.goto 283, 3) := by decide +kernel
theorem dX7_value_139 : decode cX7_value 139 = .ok (.iload 6, 2) := by decide +kernel
theorem dX7_value_141 : decode cX7_value 141 = .ok (.iconst 2, 1) := by decide +kernel
theorem dX7_value_142 : decode cX7_value 142 = .ok (.if_icmp .lt 277, 3) := by decide +kernel
theorem dX7_value_145 : decode cX7_value 145 = .ok (.iinc 6 (-1), 3) := by decide +kernel
theorem dX7_value_148 : decode cX7_value 148 = .ok (.aload_n 0, 1) := by decide +kernel
theorem dX7_value_149 : decode cX7_value 149 = .ok (.getfield 20, 3) := by decide +kernel
theorem dX7_value_152 : decode cX7_value 152 = .ok (.iload 6, 2) := by decide +kernel
theorem dX7_value_154 : decode cX7_value 154 = .ok (.iconst 1, 1) := by decide +kernel
theorem dX7_value_155 : decode cX7_value 155 = .ok (.isub, 1) := by decide +kernel
theorem dX7_value_156 : decode cX7_value 156 = .ok (.iaload, 1) := by decide +kernel
theorem dX7_value_157 : decode cX7_value 157 = .ok (.istore 9, 2) := by decide +kernel
theorem dX7_value_159 : decode cX7_value 159 = .ok (.aload_n 0, 1) := by decide +kernel
theorem dX7_value_160 : decode cX7_value 160 = .ok (.getfield 20, 3) := by decide +kernel
theorem dX7_value_163 : decode cX7_value 163 = .ok (.iload 6, 2) := by decide +kernel
theorem dX7_value_165 : decode cX7_value 165 = .ok (.iaload, 1) := by decide +kernel
theorem dX7_value_166 : decode cX7_value 166 = .ok (.istore 10, 2) := by decide +kernel
theorem dX7_value_168 : decode cX7_value 168 = .ok (.iload 8, 2) := by decide +kernel
theorem dX7_value_170 : decode cX7_value 170 = .ok (.ineg, 1) := by decide +kernel
theorem dX7_value_171 : decode cX7_value 171 = .ok (.lookupswitch 221 #[(38, 101), (42, 192), (43, 172), (45, 182), (47, 202), (60, 121), (61, 138), (62, 155), (124, 81)], 81) := by decide +kernel
theorem dX7_value_252 : decode cX7_value 252 = .ok (.iload 9, 2) := by decide +kernel
theorem dX7_value_254 : decode cX7_value 254 = .ok (.ifCond .ne 8, 3) := by decide +kernel
theorem dX7_value_257 : decode cX7_value 257 = .ok (.iload 10, 2) := by decide +kernel
theorem dX7_value_259 : decode cX7_value 259 = .ok (.ifCond .eq 7, 3) := by decide +kernel
theorem dX7_value_262 : decode cX7_value 262 = .ok (.iconst 1, 1) := by decide +kernel
theorem dX7_value_263 : decode cX7_value 263 = .ok (.goto 4, 3) := by decide +kernel
theorem dX7_value_266 : decode cX7_value 266 = .ok (.iconst 0, 1) := by decide +kernel
theorem dX7_value_267 : decode cX7_value 267 = .ok (.istore 9, 2) := by decide +kernel
theorem dX7_value_269 : decode cX7_value 269 = .ok (.goto 139, 3) := by decide +kernel
theorem dX7_value_272 : decode cX7_value 272 = .ok (.iload 9, 2) := by decide +kernel
theorem dX7_value_274 : decode cX7_value 274 = .ok (.ifCond .eq 12, 3) := by decide +kernel
theorem dX7_value_277 : decode cX7_value 277 = .ok (.iload 10, 2) := by decide +kernel
theorem dX7_value_279 : decode cX7_value 279 = .ok (.ifCond .eq 7, 3) := by decide +kernel
theorem dX7_value_282 : decode cX7_value 282 = .ok (.iconst 1, 1) := by decide +kernel
theorem dX7_value_283 : decode cX7_value 283 = .ok (.goto 4, 3) := by decide +kernel
theorem dX7_value_286 : decode cX7_value 286 = .ok (.iconst 0, 1) := by decide +kernel
theorem dX7_value_287 : decode cX7_value 287 = .ok (.istore 9, 2) := by decide +kernel
theorem dX7_value_289 : decode cX7_value 289 = .ok (.goto 119, 3) := by decide +kernel
theorem dX7_value_292 : decode cX7_value 292 = .ok (.iload 9, 2) := by decide +kernel
theorem dX7_value_294 : decode cX7_value 294 = .ok (.iload 10, 2) := by decide +kernel
theorem dX7_value_296 : decode cX7_value 296 = .ok (.if_icmp .ge 7, 3) := by decide +kernel
theorem dX7_value_299 : decode cX7_value 299 = .ok (.iconst 1, 1) := by decide +kernel
theorem dX7_value_300 : decode cX7_value 300 = .ok (.goto 4, 3) := by decide +kernel
theorem dX7_value_303 : decode cX7_value 303 = .ok (.iconst 0, 1) := by decide +kernel
theorem dX7_value_304 : decode cX7_value 304 = .ok (.istore 9, 2) := by decide +kernel
theorem dX7_value_306 : decode cX7_value 306 = .ok (.goto 102, 3) := by decide +kernel
theorem dX7_value_309 : decode cX7_value 309 = .ok (.iload 9, 2) := by decide +kernel
theorem dX7_value_311 : decode cX7_value 311 = .ok (.iload 10, 2) := by decide +kernel
theorem dX7_value_313 : decode cX7_value 313 = .ok (.if_icmp .ne 7, 3) := by decide +kernel
theorem dX7_value_316 : decode cX7_value 316 = .ok (.iconst 1, 1) := by decide +kernel
theorem dX7_value_317 : decode cX7_value 317 = .ok (.goto 4, 3) := by decide +kernel
theorem dX7_value_320 : decode cX7_value 320 = .ok (.iconst 0, 1) := by decide +kernel
theorem dX7_value_321 : decode cX7_value 321 = .ok (.istore 9, 2) := by decide +kernel
theorem dX7_value_323 : decode cX7_value 323 = .ok (.goto 85, 3) := by decide +kernel
theorem dX7_value_326 : decode cX7_value 326 = .ok (.iload 9, 2) := by decide +kernel
theorem dX7_value_328 : decode cX7_value 328 = .ok (.iload 10, 2) := by decide +kernel
theorem dX7_value_330 : decode cX7_value 330 = .ok (.if_icmp .le 7, 3) := by decide +kernel
theorem dX7_value_333 : decode cX7_value 333 = .ok (.iconst 1, 1) := by decide +kernel
theorem dX7_value_334 : decode cX7_value 334 = .ok (.goto 4, 3) := by decide +kernel
theorem dX7_value_337 : decode cX7_value 337 = .ok (.iconst 0, 1) := by decide +kernel
theorem dX7_value_338 : decode cX7_value 338 = .ok (.istore 9, 2) := by decide +kernel
theorem dX7_value_340 : decode cX7_value 340 = .ok (.goto 68, 3) := by decide +kernel
theorem dX7_value_343 : decode cX7_value 343 = .ok (.iload 9, 2) := by decide +kernel
theorem dX7_value_345 : decode cX7_value 345 = .ok (.iload 10, 2) := by decide +kernel
theorem dX7_value_347 : decode cX7_value 347 = .ok (.iadd, 1) := by decide +kernel
theorem dX7_value_348 : decode cX7_value 348 = .ok (.istore 9, 2) := by decide +kernel
theorem dX7_value_350 : decode cX7_value 350 = .ok (.goto 58, 3) := by decide +kernel
theorem dX7_value_353 : decode cX7_value 353 = .ok (.iload 9, 2) := by decide +kernel
theorem dX7_value_355 : decode cX7_value 355 = .ok (.iload 10, 2) := by decide +kernel
theorem dX7_value_357 : decode cX7_value 357 = .ok (.isub, 1) := by decide +kernel
theorem dX7_value_358 : decode cX7_value 358 = .ok (.istore 9, 2) := by decide +kernel
theorem dX7_value_360 : decode cX7_value 360 = .ok (.goto 48, 3) := by decide +kernel
theorem dX7_value_363 : decode cX7_value 363 = .ok (.iload 9, 2) := by decide +kernel
theorem dX7_value_365 : decode cX7_value 365 = .ok (.iload 10, 2) := by decide +kernel
theorem dX7_value_367 : decode cX7_value 367 = .ok (.imul, 1) := by decide +kernel
theorem dX7_value_368 : decode cX7_value 368 = .ok (.istore 9, 2) := by decide +kernel
theorem dX7_value_370 : decode cX7_value 370 = .ok (.goto 38, 3) := by decide +kernel
theorem dX7_value_373 : decode cX7_value 373 = .ok (.iload 10, 2) := by decide +kernel
theorem dX7_value_375 : decode cX7_value 375 = .ok (.ifCond .ne 7, 3) := by decide +kernel
theorem dX7_value_378 : decode cX7_value 378 = .ok (.iconst 0, 1) := by decide +kernel
theorem dX7_value_379 : decode cX7_value 379 = .ok (.goto 8, 3) := by decide +kernel
theorem dX7_value_382 : decode cX7_value 382 = .ok (.iload 9, 2) := by decide +kernel
theorem dX7_value_384 : decode cX7_value 384 = .ok (.iload 10, 2) := by decide +kernel
theorem dX7_value_386 : decode cX7_value 386 = .ok (.idiv, 1) := by decide +kernel
theorem dX7_value_387 : decode cX7_value 387 = .ok (.istore 9, 2) := by decide +kernel
theorem dX7_value_389 : decode cX7_value 389 = .ok (.goto 19, 3) := by decide +kernel
theorem dX7_value_392 : decode cX7_value 392 = .ok (.iload 10, 2) := by decide +kernel
theorem dX7_value_394 : decode cX7_value 394 = .ok (.ifCond .ne 7, 3) := by decide +kernel
theorem dX7_value_397 : decode cX7_value 397 = .ok (.iconst 0, 1) := by decide +kernel
theorem dX7_value_398 : decode cX7_value 398 = .ok (.goto 8, 3) := by decide +kernel
theorem dX7_value_401 : decode cX7_value 401 = .ok (.iload 9, 2) := by decide +kernel
theorem dX7_value_403 : decode cX7_value 403 = .ok (.iload 10, 2) := by decide +kernel
theorem dX7_value_405 : decode cX7_value 405 = .ok (.irem, 1) := by decide +kernel
theorem dX7_value_406 : decode cX7_value 406 = .ok (.istore 9, 2) := by decide +kernel
theorem dX7_value_408 : decode cX7_value 408 = .ok (.aload_n 0, 1) := by decide +kernel
theorem dX7_value_409 : decode cX7_value 409 = .ok (.getfield 20, 3) := by decide +kernel
theorem dX7_value_412 : decode cX7_value 412 = .ok (.iload 6, 2) := by decide +kernel
theorem dX7_value_414 : decode cX7_value 414 = .ok (.iconst 1, 1) := by decide +kernel
theorem dX7_value_415 : decode cX7_value 415 = .ok (.isub, 1) := by decide +kernel
theorem dX7_value_416 : decode cX7_value 416 = .ok (.iload 9, 2) := by decide +kernel
theorem dX7_value_418 : decode cX7_value 418 = .ok (.iastore, 1) := by decide +kernel
theorem dX7_value_419 : decode cX7_value 419 = .ok (.iinc 7 1, 3) := by decide +kernel
theorem dX7_value_422 : decode cX7_value 422 = .ok (.goto (-398), 3) := by decide +kernel
theorem dX7_value_425 : decode cX7_value 425 = .ok (.iload 6, 2) := by decide +kernel
theorem dX7_value_427 : decode cX7_value 427 = .ok (.iconst 1, 1) := by decide +kernel
theorem dX7_value_428 : decode cX7_value 428 = .ok (.if_icmp .lt 15, 3) := by decide +kernel
theorem dX7_value_431 : decode cX7_value 431 = .ok (.aload_n 0, 1) := by decide +kernel
theorem dX7_value_432 : decode cX7_value 432 = .ok (.getfield 20, 3) := by decide +kernel
theorem dX7_value_435 : decode cX7_value 435 = .ok (.iload 6, 2) := by decide +kernel
theorem dX7_value_437 : decode cX7_value 437 = .ok (.iconst 1, 1) := by decide +kernel
theorem dX7_value_438 : decode cX7_value 438 = .ok (.isub, 1) := by decide +kernel
theorem dX7_value_439 : decode cX7_value 439 = .ok (.iaload, 1) := by decide +kernel
theorem dX7_value_440 : decode cX7_value 440 = .ok (.goto 4, 3) := by decide +kernel
theorem dX7_value_443 : decode cX7_value 443 = .ok (.iconst 0, 1) := by decide +kernel
theorem dX7_value_444 : decode cX7_value 444 = .ok (.ireturn, 1) := by decide +kernel
theorem dX8_init_0 : decode cX8_init 0 = .ok (.aload_n 0, 1) := by decide +kernel
theorem dX8_init_1 : decode cX8_init 1 = .ok (.invokespecial 3, 3) := by decide +kernel
theorem dX8_init_4 : decode cX8_init 4 = .ok (.aload_n 0, 1) := by decide +kernel
theorem dX8_init_5 : decode cX8_init 5 = .ok (.new 9, 3) := by decide +kernel
theorem dX8_init_8 : decode cX8_init 8 = .ok (.dup, 1) := by decide +kernel
theorem dX8_init_9 : decode cX8_init 9 = .ok (.bipush 40, 2) := by decide +kernel
theorem dX8_init_11 : decode cX8_init 11 = .ok (.invokespecial 11, 3) := by decide +kernel
theorem dX8_init_14 : decode cX8_init 14 = .ok (.putfield 14, 3) := by decide +kernel
theorem dX8_init_17 : decode cX8_init 17 = .ok (.return_, 1) := by decide +kernel
theorem dX8_begin_0 : decode cX8_begin 0 = .ok (.aload_n 0, 1) := by decide +kernel
theorem dX8_begin_1 : decode cX8_begin 1 = .ok (.iload_n 1, 1) := by decide +kernel
theorem dX8_begin_2 : decode cX8_begin 2 = .ok (.putfield 20, 3) := by decide +kernel
theorem dX8_begin_5 : decode cX8_begin 5 = .ok (.aload_n 0, 1) := by decide +kernel
theorem dX8_begin_6 : decode cX8_begin 6 = .ok (.iload_n 2, 1) := by decide +kernel
theorem dX8_begin_7 : decode cX8_begin 7 = .ok (.putfield 24, 3) := by decide +kernel
theorem dX8_begin_10 : decode cX8_begin 10 = .ok (.aload_n 0, 1) := by decide +kernel
theorem dX8_begin_11 : decode cX8_begin 11 = .ok (.iload_n 3, 1) := by decide +kernel
theorem dX8_begin_12 : decode cX8_begin 12 = .ok (.putfield 27, 3) := by decide +kernel
theorem dX8_begin_15 : decode cX8_begin 15 = .ok (.aload_n 0, 1) := by decide +kernel
theorem dX8_begin_16 : decode cX8_begin 16 = .ok (.getfield 14, 3) := by decide +kernel
theorem dX8_begin_19 : decode cX8_begin 19 = .ok (.invokevirtual 30, 3) := by decide +kernel
theorem dX8_begin_22 : decode cX8_begin 22 = .ok (.aload_n 0, 1) := by decide +kernel
theorem dX8_begin_23 : decode cX8_begin 23 = .ok (.aload_n 0, 1) := by decide +kernel
theorem dX8_begin_24 : decode cX8_begin 24 = .ok (.getfield 24, 3) := by decide +kernel
theorem dX8_begin_27 : decode cX8_begin 27 = .ok (.iload 4, 2) := by decide +kernel
theorem dX8_begin_29 : decode cX8_begin 29 = .ok (.iload 5, 2) := by decide +kernel
theorem dX8_begin_31 : decode cX8_begin 31 = .ok (.iconst 0, 1) := by decide +kernel
theorem dX8_begin_32 : decode cX8_begin 32 = .ok (.invokevirtual 33, 3) := by decide +kernel
theorem dX8_begin_35 : decode cX8_begin 35 = .ok (.ireturn, 1) := by decide +kernel
theorem dX8_call_0 : decode cX8_call 0 = .ok (.iload_n 1, 1) := by decide +kernel
theorem dX8_call_1 : decode cX8_call 1 = .ok (.istore 5, 2) := by decide +kernel
theorem dX8_call_3 : decode cX8_call 3 = .ok (.iconst 0, 1) := by decide +kernel
theorem dX8_call_4 : decode cX8_call 4 = .ok (.istore 6, 2) := by decide +kernel
theorem dX8_call_6 : decode cX8_call 6 = .ok (.iload 6, 2) := by decide +kernel
theorem dX8_call_8 : decode cX8_call 8 = .ok (.bipush 7, 2) := by decide +kernel
theorem dX8_call_10 : decode cX8_call 10 = .ok (.if_icmp .ge 64, 3) := by decide +kernel
theorem dX8_call_13 : decode cX8_call 13 = .ok (.iload 5, 2) := by decide +kernel
theorem dX8_call_15 : decode cX8_call 15 = .ok (.ifCond .lt 59, 3) := by decide +kernel
theorem dX8_call_18 : decode cX8_call 18 = .ok (.iload 5, 2) := by decide +kernel
theorem dX8_call_20 : decode cX8_call 20 = .ok (.iload_n 2, 1) := by decide +kernel
theorem dX8_call_21 : decode cX8_call 21 = .ok (.invokestatic 37, 3) := by decide +kernel
theorem dX8_call_24 : decode cX8_call 24 = .ok (.istore 7, 2) := by decide +kernel
theorem dX8_call_26 : decode cX8_call 26 = .ok (.iload 7, 2) := by decide +kernel
theorem dX8_call_28 : decode cX8_call 28 = .ok (.ifCond .le 33, 3) := by decide +kernel
theorem dX8_call_31 : decode cX8_call 31 = .ok (.iload 4, 2) := by decide +kernel
theorem dX8_call_33 : decode cX8_call 33 = .ok (.bipush 30, 2) := by decide +kernel
theorem dX8_call_35 : decode cX8_call 35 = .ok (.if_icmp .ge 26, 3) := by decide +kernel
theorem dX8_call_38 : decode cX8_call 38 = .ok (.aload_n 0, 1) := by decide +kernel
theorem dX8_call_39 : decode cX8_call 39 = .ok (.getfield 14, 3) := by decide +kernel
theorem dX8_call_42 : decode cX8_call 42 = .ok (.iload 7, 2) := by decide +kernel
theorem dX8_call_44 : decode cX8_call 44 = .ok (.invokevirtual 41, 3) := by decide +kernel
theorem dX8_call_47 : decode cX8_call 47 = .ok (.aload_n 0, 1) := by decide +kernel
theorem dX8_call_48 : decode cX8_call 48 = .ok (.iload 7, 2) := by decide +kernel
theorem dX8_call_50 : decode cX8_call 50 = .ok (.iload 5, 2) := by decide +kernel
theorem dX8_call_52 : decode cX8_call 52 = .ok (.iload_n 3, 1) := by decide +kernel
theorem dX8_call_53 : decode cX8_call 53 = .ok (.iload 4, 2) := by decide +kernel
theorem dX8_call_55 : decode cX8_call 55 = .ok (.iconst 1, 1) := by decide +kernel
theorem dX8_call_56 : decode cX8_call 56 = .ok (.iadd, 1) := by decide +kernel
theorem dX8_call_57 : decode cX8_call 57 = .ok (.invokevirtual 44, 3) := by decide +kernel
theorem dX8_call_60 : decode cX8_call 60 = .ok (.ireturn, 1) := by decide +kernel
theorem dX8_call_61 : decode cX8_call 61 = .ok (.iload 5, 2) := by decide +kernel
theorem dX8_call_63 : decode cX8_call 63 = .ok (.invokestatic 47, 3) := by decide +kernel
theorem dX8_call_66 : decode cX8_call 66 = .ok (.istore 5, 2) := by decide +kernel
theorem dX8_call_68 : decode cX8_call 68 = .ok (.iinc 6 1, 3) := by decide +kernel
theorem dX8_call_71 : decode cX8_call 71 = .ok (.goto (-65), 3) := by decide +kernel
theorem dX8_call_74 : decode cX8_call 74 = .ok (.iconst 0, 1) := by decide +kernel
theorem dX8_call_75 : decode cX8_call 75 = .ok (.ireturn, 1) := by decide +kernel
theorem dX8_bodyOf_0 : decode cX8_bodyOf 0 = .ok (.iload_n 0, 1) := by decide +kernel
theorem dX8_bodyOf_1 : decode cX8_bodyOf 1 = .ok (.tableswitch 129 0 6 #[43, 48, 59, 71, 83, 95, 107], 43) := by decide +kernel
theorem dX8_bodyOf_44 : decode cX8_bodyOf 44 = .ok (.bipush 10, 2) := by decide +kernel
theorem dX8_bodyOf_46 : decode cX8_bodyOf 46 = .ok (.iload_n 1, 1) := by decide +kernel
theorem dX8_bodyOf_47 : decode cX8_bodyOf 47 = .ok (.iadd, 1) := by decide +kernel
theorem dX8_bodyOf_48 : decode cX8_bodyOf 48 = .ok (.ireturn, 1) := by decide +kernel
theorem dX8_bodyOf_49 : decode cX8_bodyOf 49 = .ok (.iload_n 1, 1) := by decide +kernel
theorem dX8_bodyOf_50 : decode cX8_bodyOf 50 = .ok (.ifCond .ne 8, 3) := by decide +kernel
theorem dX8_bodyOf_53 : decode cX8_bodyOf 53 = .ok (.bipush 20, 2) := by decide +kernel
theorem dX8_bodyOf_55 : decode cX8_bodyOf 55 = .ok (.goto 4, 3) := by decide +kernel
theorem dX8_bodyOf_58 : decode cX8_bodyOf 58 = .ok (.iconst 0, 1) := by decide +kernel
theorem dX8_bodyOf_59 : decode cX8_bodyOf 59 = .ok (.ireturn, 1) := by decide +kernel
theorem dX8_bodyOf_60 : decode cX8_bodyOf 60 = .ok (.iload_n 1, 1) := by decide +kernel
theorem dX8_bodyOf_61 : decode cX8_bodyOf 61 = .ok (.iconst 1, 1) := by decide +kernel
theorem dX8_bodyOf_62 : decode cX8_bodyOf 62 = .ok (.if_icmp .ne 8, 3) := by decide +kernel
theorem dX8_bodyOf_65 : decode cX8_bodyOf 65 = .ok (.bipush 30, 2) := by decide +kernel
theorem dX8_bodyOf_67 : decode cX8_bodyOf 67 = .ok (.goto 4, 3) := by decide +kernel
theorem dX8_bodyOf_70 : decode cX8_bodyOf 70 = .ok (.iconst 0, 1) := by decide +kernel
theorem dX8_bodyOf_71 : decode cX8_bodyOf 71 = .ok (.ireturn, 1) := by decide +kernel
theorem dX8_bodyOf_72 : decode cX8_bodyOf 72 = .ok (.iload_n 1, 1) := by decide +kernel
theorem dX8_bodyOf_73 : decode cX8_bodyOf 73 = .ok (.iconst 2, 1) := by decide +kernel
theorem dX8_bodyOf_74 : decode cX8_bodyOf 74 = .ok (.if_icmp .ne 8, 3) := by decide +kernel
theorem dX8_bodyOf_77 : decode cX8_bodyOf 77 = .ok (.bipush 40, 2) := by decide +kernel
theorem dX8_bodyOf_79 : decode cX8_bodyOf 79 = .ok (.goto 4, 3) := by decide +kernel
theorem dX8_bodyOf_82 : decode cX8_bodyOf 82 = .ok (.iconst 0, 1) := by decide +kernel
theorem dX8_bodyOf_83 : decode cX8_bodyOf 83 = .ok (.ireturn, 1) := by decide +kernel
theorem dX8_bodyOf_84 : decode cX8_bodyOf 84 = .ok (.iload_n 1, 1) := by decide +kernel
theorem dX8_bodyOf_85 : decode cX8_bodyOf 85 = .ok (.iconst 3, 1) := by decide +kernel
theorem dX8_bodyOf_86 : decode cX8_bodyOf 86 = .ok (.if_icmp .ne 8, 3) := by decide +kernel
theorem dX8_bodyOf_89 : decode cX8_bodyOf 89 = .ok (.bipush 50, 2) := by decide +kernel
theorem dX8_bodyOf_91 : decode cX8_bodyOf 91 = .ok (.goto 4, 3) := by decide +kernel
theorem dX8_bodyOf_94 : decode cX8_bodyOf 94 = .ok (.iconst 0, 1) := by decide +kernel
theorem dX8_bodyOf_95 : decode cX8_bodyOf 95 = .ok (.ireturn, 1) := by decide +kernel
theorem dX8_bodyOf_96 : decode cX8_bodyOf 96 = .ok (.iload_n 1, 1) := by decide +kernel
theorem dX8_bodyOf_97 : decode cX8_bodyOf 97 = .ok (.iconst 1, 1) := by decide +kernel
theorem dX8_bodyOf_98 : decode cX8_bodyOf 98 = .ok (.if_icmp .ne 8, 3) := by decide +kernel
theorem dX8_bodyOf_101 : decode cX8_bodyOf 101 = .ok (.bipush 60, 2) := by decide +kernel
theorem dX8_bodyOf_103 : decode cX8_bodyOf 103 = .ok (.goto 4, 3) := by decide +kernel
theorem dX8_bodyOf_106 : decode cX8_bodyOf 106 = .ok (.iconst 0, 1) := by decide +kernel
theorem dX8_bodyOf_107 : decode cX8_bodyOf 107 = .ok (.ireturn, 1) := by decide +kernel
theorem dX8_bodyOf_108 : decode cX8_bodyOf 108 = .ok (.iload_n 1, 1) := by decide +kernel
theorem dX8_bodyOf_109 : decode cX8_bodyOf 109 = .ok (.iconst 2, 1) := by decide +kernel
theorem dX8_bodyOf_110 : decode cX8_bodyOf 110 = .ok (.if_icmp .ne 8, 3) := by decide +kernel
theorem dX8_bodyOf_113 : decode cX8_bodyOf 113 = .ok (.bipush 70, 2) := by decide +kernel
theorem dX8_bodyOf_115 : decode cX8_bodyOf 115 = .ok (.goto 14, 3) := by decide +kernel
theorem dX8_bodyOf_118 : decode cX8_bodyOf 118 = .ok (.iload_n 1, 1) := by decide +kernel
theorem dX8_bodyOf_119 : decode cX8_bodyOf 119 = .ok (.iconst 3, 1) := by decide +kernel
theorem dX8_bodyOf_120 : decode cX8_bodyOf 120 = .ok (.if_icmp .ne 8, 3) := by decide +kernel
theorem dX8_bodyOf_123 : decode cX8_bodyOf 123 = .ok (.bipush 71, 2) := by decide +kernel
theorem dX8_bodyOf_125 : decode cX8_bodyOf 125 = .ok (.goto 4, 3) := by decide +kernel
theorem dX8_bodyOf_128 : decode cX8_bodyOf 128 = .ok (.iconst 0, 1) := by decide +kernel
theorem dX8_bodyOf_129 : decode cX8_bodyOf 129 = .ok (.ireturn, 1) := by decide +kernel
theorem dX8_bodyOf_130 : decode cX8_bodyOf 130 = .ok (.iconst 0, 1) := by decide +kernel
theorem dX8_bodyOf_131 : decode cX8_bodyOf 131 = .ok (.ireturn, 1) := by decide +kernel
theorem dX8_run_0 : decode cX8_run 0 = .ok (.iload_n 2, 1) := by decide +kernel
theorem dX8_run_1 : decode cX8_run 1 = .ok (.invokestatic 47, 3) := by decide +kernel
theorem dX8_run_4 : decode cX8_run 4 = .ok (.istore 5, 2) := by decide +kernel
theorem dX8_run_6 : decode cX8_run 6 = .ok (.iload_n 1, 1) := by decide +kernel
theorem dX8_run_7 : decode cX8_run 7 = .ok (.lookupswitch 278 #[(10, 97), (11, 104), (12, 119), (13, 126), (20, 152), (30, 165), (40, 189), (50, 201), (60, 225), (70, 238), (71, 254)], 97) := by decide +kernel
theorem dX8_run_104 : decode cX8_run 104 = .ok (.iload_n 3, 1) := by decide +kernel
theorem dX8_run_105 : decode cX8_run 105 = .ok (.aload_n 0, 1) := by decide +kernel
theorem dX8_run_106 : decode cX8_run 106 = .ok (.getfield 20, 3) := by decide +kernel
theorem dX8_run_109 : decode cX8_run 109 = .ok (.iadd, 1) := by decide +kernel
theorem dX8_run_110 : decode cX8_run 110 = .ok (.ireturn, 1) := by decide +kernel
theorem dX8_run_111 : decode cX8_run 111 = .ok (.aload_n 0, 1) := by decide +kernel
theorem dX8_run_112 : decode cX8_run 112 = .ok (.aload_n 0, 1) := by decide +kernel
theorem dX8_run_113 : decode cX8_run 113 = .ok (.getfield 24, 3) := by decide +kernel
theorem dX8_run_116 : decode cX8_run 116 = .ok (.iconst 0, 1) := by decide +kernel
theorem dX8_run_117 : decode cX8_run 117 = .ok (.iload_n 3, 1) := by decide +kernel
theorem dX8_run_118 : decode cX8_run 118 = .ok (.iload 4, 2) := by decide +kernel
theorem dX8_run_120 : decode cX8_run 120 = .ok (.invokevirtual 33, 3) := by decide +kernel
theorem dX8_run_123 : decode cX8_run 123 = .ok (.iconst 2, 1) := by decide +kernel
theorem dX8_run_124 : decode cX8_run 124 = .ok (.imul, 1) := by decide +kernel
theorem dX8_run_125 : decode cX8_run 125 = .ok (.ireturn, 1) := by decide +kernel
theorem dX8_run_126 : decode cX8_run 126 = .ok (.iload_n 3, 1) := by decide +kernel
theorem dX8_run_127 : decode cX8_run 127 = .ok (.aload_n 0, 1) := by decide +kernel
theorem dX8_run_128 : decode cX8_run 128 = .ok (.getfield 27, 3) := by decide +kernel
theorem dX8_run_131 : decode cX8_run 131 = .ok (.isub, 1) := by decide +kernel
theorem dX8_run_132 : decode cX8_run 132 = .ok (.ireturn, 1) := by decide +kernel
theorem dX8_run_133 : decode cX8_run 133 = .ok (.aload_n 0, 1) := by decide +kernel
theorem dX8_run_134 : decode cX8_run 134 = .ok (.aload_n 0, 1) := by decide +kernel
theorem dX8_run_135 : decode cX8_run 135 = .ok (.getfield 24, 3) := by decide +kernel
theorem dX8_run_138 : decode cX8_run 138 = .ok (.iconst 1, 1) := by decide +kernel
theorem dX8_run_139 : decode cX8_run 139 = .ok (.iload_n 3, 1) := by decide +kernel
theorem dX8_run_140 : decode cX8_run 140 = .ok (.iload 4, 2) := by decide +kernel
theorem dX8_run_142 : decode cX8_run 142 = .ok (.invokevirtual 33, 3) := by decide +kernel
theorem dX8_run_145 : decode cX8_run 145 = .ok (.aload_n 0, 1) := by decide +kernel
theorem dX8_run_146 : decode cX8_run 146 = .ok (.aload_n 0, 1) := by decide +kernel
theorem dX8_run_147 : decode cX8_run 147 = .ok (.getfield 24, 3) := by decide +kernel
theorem dX8_run_150 : decode cX8_run 150 = .ok (.iconst 2, 1) := by decide +kernel
theorem dX8_run_151 : decode cX8_run 151 = .ok (.iload_n 3, 1) := by decide +kernel
theorem dX8_run_152 : decode cX8_run 152 = .ok (.iload 4, 2) := by decide +kernel
theorem dX8_run_154 : decode cX8_run 154 = .ok (.invokevirtual 33, 3) := by decide +kernel
theorem dX8_run_157 : decode cX8_run 157 = .ok (.ixor, 1) := by decide +kernel
theorem dX8_run_158 : decode cX8_run 158 = .ok (.ireturn, 1) := by decide +kernel
theorem dX8_run_159 : decode cX8_run 159 = .ok (.aload_n 0, 1) := by decide +kernel
theorem dX8_run_160 : decode cX8_run 160 = .ok (.iload 5, 2) := by decide +kernel
theorem dX8_run_162 : decode cX8_run 162 = .ok (.iconst 0, 1) := by decide +kernel
theorem dX8_run_163 : decode cX8_run 163 = .ok (.iload_n 3, 1) := by decide +kernel
theorem dX8_run_164 : decode cX8_run 164 = .ok (.iload 4, 2) := by decide +kernel
theorem dX8_run_166 : decode cX8_run 166 = .ok (.invokevirtual 33, 3) := by decide +kernel
theorem dX8_run_169 : decode cX8_run 169 = .ok (.iconst 3, 1) := by decide +kernel
theorem dX8_run_170 : decode cX8_run 170 = .ok (.imul, 1) := by decide +kernel
theorem dX8_run_171 : decode cX8_run 171 = .ok (.ireturn, 1) := by decide +kernel
theorem dX8_run_172 : decode cX8_run 172 = .ok (.aload_n 0, 1) := by decide +kernel
theorem dX8_run_173 : decode cX8_run 173 = .ok (.iload 5, 2) := by decide +kernel
theorem dX8_run_175 : decode cX8_run 175 = .ok (.iconst 1, 1) := by decide +kernel
theorem dX8_run_176 : decode cX8_run 176 = .ok (.iload_n 3, 1) := by decide +kernel
theorem dX8_run_177 : decode cX8_run 177 = .ok (.iload 4, 2) := by decide +kernel
theorem dX8_run_179 : decode cX8_run 179 = .ok (.invokevirtual 33, 3) := by decide +kernel
theorem dX8_run_182 : decode cX8_run 182 = .ok (.aload_n 0, 1) := by decide +kernel
theorem dX8_run_183 : decode cX8_run 183 = .ok (.aload_n 0, 1) := by decide +kernel
theorem dX8_run_184 : decode cX8_run 184 = .ok (.getfield 24, 3) := by decide +kernel
theorem dX8_run_187 : decode cX8_run 187 = .ok (.iconst 2, 1) := by decide +kernel
theorem dX8_run_188 : decode cX8_run 188 = .ok (.iconst 1, 1) := by decide +kernel
theorem dX8_run_189 : decode cX8_run 189 = .ok (.iload 4, 2) := by decide +kernel
theorem dX8_run_191 : decode cX8_run 191 = .ok (.invokevirtual 33, 3) := by decide +kernel
theorem dX8_run_194 : decode cX8_run 194 = .ok (.isub, 1) := by decide +kernel
theorem dX8_run_195 : decode cX8_run 195 = .ok (.ireturn, 1) := by decide +kernel
theorem dX8_run_196 : decode cX8_run 196 = .ok (.aload_n 0, 1) := by decide +kernel
theorem dX8_run_197 : decode cX8_run 197 = .ok (.iload 5, 2) := by decide +kernel
theorem dX8_run_199 : decode cX8_run 199 = .ok (.iconst 2, 1) := by decide +kernel
theorem dX8_run_200 : decode cX8_run 200 = .ok (.iload_n 3, 1) := by decide +kernel
theorem dX8_run_201 : decode cX8_run 201 = .ok (.iload 4, 2) := by decide +kernel
theorem dX8_run_203 : decode cX8_run 203 = .ok (.invokevirtual 33, 3) := by decide +kernel
theorem dX8_run_206 : decode cX8_run 206 = .ok (.ineg, 1) := by decide +kernel
theorem dX8_run_207 : decode cX8_run 207 = .ok (.ireturn, 1) := by decide +kernel
theorem dX8_run_208 : decode cX8_run 208 = .ok (.aload_n 0, 1) := by decide +kernel
theorem dX8_run_209 : decode cX8_run 209 = .ok (.iload 5, 2) := by decide +kernel
theorem dX8_run_211 : decode cX8_run 211 = .ok (.iconst 3, 1) := by decide +kernel
theorem dX8_run_212 : decode cX8_run 212 = .ok (.iload_n 3, 1) := by decide +kernel
theorem dX8_run_213 : decode cX8_run 213 = .ok (.iload 4, 2) := by decide +kernel
theorem dX8_run_215 : decode cX8_run 215 = .ok (.invokevirtual 33, 3) := by decide +kernel
theorem dX8_run_218 : decode cX8_run 218 = .ok (.aload_n 0, 1) := by decide +kernel
theorem dX8_run_219 : decode cX8_run 219 = .ok (.aload_n 0, 1) := by decide +kernel
theorem dX8_run_220 : decode cX8_run 220 = .ok (.getfield 24, 3) := by decide +kernel
theorem dX8_run_223 : decode cX8_run 223 = .ok (.iconst 0, 1) := by decide +kernel
theorem dX8_run_224 : decode cX8_run 224 = .ok (.iconst 2, 1) := by decide +kernel
theorem dX8_run_225 : decode cX8_run 225 = .ok (.iload 4, 2) := by decide +kernel
theorem dX8_run_227 : decode cX8_run 227 = .ok (.invokevirtual 33, 3) := by decide +kernel
theorem dX8_run_230 : decode cX8_run 230 = .ok (.isub, 1) := by decide +kernel
theorem dX8_run_231 : decode cX8_run 231 = .ok (.ireturn, 1) := by decide +kernel
theorem dX8_run_232 : decode cX8_run 232 = .ok (.aload_n 0, 1) := by decide +kernel
theorem dX8_run_233 : decode cX8_run 233 = .ok (.iload 5, 2) := by decide +kernel
theorem dX8_run_235 : decode cX8_run 235 = .ok (.iconst 1, 1) := by decide +kernel
theorem dX8_run_236 : decode cX8_run 236 = .ok (.iload_n 3, 1) := by decide +kernel
theorem dX8_run_237 : decode cX8_run 237 = .ok (.iconst 1, 1) := by decide +kernel
theorem dX8_run_238 : decode cX8_run 238 = .ok (.iadd, 1) := by decide +kernel
theorem dX8_run_239 : decode cX8_run 239 = .ok (.iload 4, 2) := by decide +kernel
theorem dX8_run_241 : decode cX8_run 241 = .ok (.invokevirtual 33, 3) := by decide +kernel
theorem dX8_run_244 : decode cX8_run 244 = .ok (.ireturn, 1) := by decide +kernel
theorem dX8_run_245 : decode cX8_run 245 = .ok (.aload_n 0, 1) := by decide +kernel
theorem dX8_run_246 : decode cX8_run 246 = .ok (.iload 5, 2) := by decide +kernel
theorem dX8_run_248 : decode cX8_run 248 = .ok (.iconst 2, 1) := by decide +kernel
theorem dX8_run_249 : decode cX8_run 249 = .ok (.iload_n 3, 1) := by decide +kernel
theorem dX8_run_250 : decode cX8_run 250 = .ok (.iload 4, 2) := by decide +kernel
theorem dX8_run_252 : decode cX8_run 252 = .ok (.invokevirtual 33, 3) := by decide +kernel
theorem dX8_run_255 : decode cX8_run 255 = .ok (.aload_n 0, 1) := by decide +kernel
theorem dX8_run_256 : decode cX8_run 256 = .ok (.getfield 20, 3) := by decide +kernel
theorem dX8_run_259 : decode cX8_run 259 = .ok (.ixor, 1) := by decide +kernel
theorem dX8_run_260 : decode cX8_run 260 = .ok (.ireturn, 1) := by decide +kernel
theorem dX8_run_261 : decode cX8_run 261 = .ok (.aload_n 0, 1) := by decide +kernel
theorem dX8_run_262 : decode cX8_run 262 = .ok (.aload_n 0, 1) := by decide +kernel
theorem dX8_run_263 : decode cX8_run 263 = .ok (.getfield 24, 3) := by decide +kernel
theorem dX8_run_266 : decode cX8_run 266 = .ok (.iconst 1, 1) := by decide +kernel
theorem dX8_run_267 : decode cX8_run 267 = .ok (.iload_n 3, 1) := by decide +kernel
theorem dX8_run_268 : decode cX8_run 268 = .ok (.iload 4, 2) := by decide +kernel
theorem dX8_run_270 : decode cX8_run 270 = .ok (.invokevirtual 33, 3) := by decide +kernel
theorem dX8_run_273 : decode cX8_run 273 = .ok (.aload_n 0, 1) := by decide +kernel
theorem dX8_run_274 : decode cX8_run 274 = .ok (.iload 5, 2) := by decide +kernel
theorem dX8_run_276 : decode cX8_run 276 = .ok (.iconst 3, 1) := by decide +kernel
theorem dX8_run_277 : decode cX8_run 277 = .ok (.iload_n 3, 1) := by decide +kernel
theorem dX8_run_278 : decode cX8_run 278 = .ok (.iload 4, 2) := by decide +kernel
theorem dX8_run_280 : decode cX8_run 280 = .ok (.invokevirtual 33, 3) := by decide +kernel
theorem dX8_run_283 : decode cX8_run 283 = .ok (.isub, 1) := by decide +kernel
theorem dX8_run_284 : decode cX8_run 284 = .ok (.ireturn, 1) := by decide +kernel
theorem dX8_run_285 : decode cX8_run 285 = .ok (.iconst 0, 1) := by decide +kernel
theorem dX8_run_286 : decode cX8_run 286 = .ok (.ireturn, 1) := by decide +kernel
theorem dX9_init_0 : decode cX9_init 0 = .ok (.aload_n 0, 1) := by decide +kernel
theorem dX9_init_1 : decode cX9_init 1 = .ok (.invokespecial 3, 3) := by decide +kernel
theorem dX9_init_4 : decode cX9_init 4 = .ok (.aload_n 0, 1) := by decide +kernel
theorem dX9_init_5 : decode cX9_init 5 = .ok (.bipush 16, 2) := by decide +kernel
theorem dX9_init_7 : decode cX9_init 7 = .ok (.newarray .int, 2) := by decide +kernel
theorem dX9_init_9 : decode cX9_init 9 = .ok (.putfield 9, 3) := by decide +kernel
theorem dX9_init_12 : decode cX9_init 12 = .ok (.aload_n 0, 1) := by decide +kernel
theorem dX9_init_13 : decode cX9_init 13 = .ok (.bipush 16, 2) := by decide +kernel
theorem dX9_init_15 : decode cX9_init 15 = .ok (.newarray .int, 2) := by decide +kernel
theorem dX9_init_17 : decode cX9_init 17 = .ok (.putfield 15, 3) := by decide +kernel
theorem dX9_init_20 : decode cX9_init 20 = .ok (.aload_n 0, 1) := by decide +kernel
theorem dX9_init_21 : decode cX9_init 21 = .ok (.bipush 6, 2) := by decide +kernel
theorem dX9_init_23 : decode cX9_init 23 = .ok (.newarray .int, 2) := by decide +kernel
theorem dX9_init_25 : decode cX9_init 25 = .ok (.putfield 18, 3) := by decide +kernel
theorem dX9_init_28 : decode cX9_init 28 = .ok (.aload_n 0, 1) := by decide +kernel
theorem dX9_init_29 : decode cX9_init 29 = .ok (.bipush 8, 2) := by decide +kernel
theorem dX9_init_31 : decode cX9_init 31 = .ok (.newarray .int, 2) := by decide +kernel
theorem dX9_init_33 : decode cX9_init 33 = .ok (.putfield 21, 3) := by decide +kernel
theorem dX9_init_36 : decode cX9_init 36 = .ok (.aload_n 0, 1) := by decide +kernel
theorem dX9_init_37 : decode cX9_init 37 = .ok (.bipush 8, 2) := by decide +kernel
theorem dX9_init_39 : decode cX9_init 39 = .ok (.newarray .int, 2) := by decide +kernel
theorem dX9_init_41 : decode cX9_init 41 = .ok (.putfield 24, 3) := by decide +kernel
theorem dX9_init_44 : decode cX9_init 44 = .ok (.aload_n 0, 1) := by decide +kernel
theorem dX9_init_45 : decode cX9_init 45 = .ok (.bipush 8, 2) := by decide +kernel
theorem dX9_init_47 : decode cX9_init 47 = .ok (.newarray .int, 2) := by decide +kernel
theorem dX9_init_49 : decode cX9_init 49 = .ok (.putfield 27, 3) := by decide +kernel
theorem dX9_init_52 : decode cX9_init 52 = .ok (.aload_n 0, 1) := by decide +kernel
theorem dX9_init_53 : decode cX9_init 53 = .ok (.bipush 8, 2) := by decide +kernel
theorem dX9_init_55 : decode cX9_init 55 = .ok (.newarray .int, 2) := by decide +kernel
theorem dX9_init_57 : decode cX9_init 57 = .ok (.putfield 30, 3) := by decide +kernel
theorem dX9_init_60 : decode cX9_init 60 = .ok (.aload_n 0, 1) := by decide +kernel
theorem dX9_init_61 : decode cX9_init 61 = .ok (.bipush 14, 2) := by decide +kernel
theorem dX9_init_63 : decode cX9_init 63 = .ok (.putfield 33, 3) := by decide +kernel
theorem dX9_init_66 : decode cX9_init 66 = .ok (.iconst 0, 1) := by decide +kernel
theorem dX9_init_67 : decode cX9_init 67 = .ok (.istore_n 1, 1) := by decide +kernel
theorem dX9_init_68 : decode cX9_init 68 = .ok (.iload_n 1, 1) := by decide +kernel
theorem dX9_init_69 : decode cX9_init 69 = .ok (.bipush 16, 2) := by decide +kernel
theorem dX9_init_71 : decode cX9_init 71 = .ok (.if_icmp .ge 19, 3) := by decide +kernel
theorem dX9_init_74 : decode cX9_init 74 = .ok (.aload_n 0, 1) := by decide +kernel
theorem dX9_init_75 : decode cX9_init 75 = .ok (.getfield 9, 3) := by decide +kernel
theorem dX9_init_78 : decode cX9_init 78 = .ok (.iload_n 1, 1) := by decide +kernel
theorem dX9_init_79 : decode cX9_init 79 = .ok (.iload_n 1, 1) := by decide +kernel
theorem dX9_init_80 : decode cX9_init 80 = .ok (.bipush 10, 2) := by decide +kernel
theorem dX9_init_82 : decode cX9_init 82 = .ok (.irem, 1) := by decide +kernel
theorem dX9_init_83 : decode cX9_init 83 = .ok (.iastore, 1) := by decide +kernel
theorem dX9_init_84 : decode cX9_init 84 = .ok (.iinc 1 1, 3) := by decide +kernel
theorem dX9_init_87 : decode cX9_init 87 = .ok (.goto (-19), 3) := by decide +kernel
theorem dX9_init_90 : decode cX9_init 90 = .ok (.return_, 1) := by decide +kernel
theorem dX9_copyFrom_0 : decode cX9_copyFrom 0 = .ok (.aload_n 1, 1) := by decide +kernel
theorem dX9_copyFrom_1 : decode cX9_copyFrom 1 = .ok (.getfield 9, 3) := by decide +kernel
theorem dX9_copyFrom_4 : decode cX9_copyFrom 4 = .ok (.iconst 0, 1) := by decide +kernel
theorem dX9_copyFrom_5 : decode cX9_copyFrom 5 = .ok (.aload_n 0, 1) := by decide +kernel
theorem dX9_copyFrom_6 : decode cX9_copyFrom 6 = .ok (.getfield 9, 3) := by decide +kernel
theorem dX9_copyFrom_9 : decode cX9_copyFrom 9 = .ok (.iconst 0, 1) := by decide +kernel
theorem dX9_copyFrom_10 : decode cX9_copyFrom 10 = .ok (.bipush 16, 2) := by decide +kernel
theorem dX9_copyFrom_12 : decode cX9_copyFrom 12 = .ok (.invokestatic 37, 3) := by decide +kernel
theorem dX9_copyFrom_15 : decode cX9_copyFrom 15 = .ok (.aload_n 1, 1) := by decide +kernel
theorem dX9_copyFrom_16 : decode cX9_copyFrom 16 = .ok (.getfield 15, 3) := by decide +kernel
theorem dX9_copyFrom_19 : decode cX9_copyFrom 19 = .ok (.iconst 0, 1) := by decide +kernel
theorem dX9_copyFrom_20 : decode cX9_copyFrom 20 = .ok (.aload_n 0, 1) := by decide +kernel
theorem dX9_copyFrom_21 : decode cX9_copyFrom 21 = .ok (.getfield 15, 3) := by decide +kernel
theorem dX9_copyFrom_24 : decode cX9_copyFrom 24 = .ok (.iconst 0, 1) := by decide +kernel
theorem dX9_copyFrom_25 : decode cX9_copyFrom 25 = .ok (.bipush 16, 2) := by decide +kernel
theorem dX9_copyFrom_27 : decode cX9_copyFrom 27 = .ok (.invokestatic 37, 3) := by decide +kernel
theorem dX9_copyFrom_30 : decode cX9_copyFrom 30 = .ok (.aload_n 1, 1) := by decide +kernel
theorem dX9_copyFrom_31 : decode cX9_copyFrom 31 = .ok (.getfield 18, 3) := by decide +kernel
theorem dX9_copyFrom_34 : decode cX9_copyFrom 34 = .ok (.iconst 0, 1) := by decide +kernel
theorem dX9_copyFrom_35 : decode cX9_copyFrom 35 = .ok (.aload_n 0, 1) := by decide +kernel
theorem dX9_copyFrom_36 : decode cX9_copyFrom 36 = .ok (.getfield 18, 3) := by decide +kernel
theorem dX9_copyFrom_39 : decode cX9_copyFrom 39 = .ok (.iconst 0, 1) := by decide +kernel
theorem dX9_copyFrom_40 : decode cX9_copyFrom 40 = .ok (.bipush 6, 2) := by decide +kernel
theorem dX9_copyFrom_42 : decode cX9_copyFrom 42 = .ok (.invokestatic 37, 3) := by decide +kernel
theorem dX9_copyFrom_45 : decode cX9_copyFrom 45 = .ok (.aload_n 1, 1) := by decide +kernel
theorem dX9_copyFrom_46 : decode cX9_copyFrom 46 = .ok (.getfield 21, 3) := by decide +kernel
theorem dX9_copyFrom_49 : decode cX9_copyFrom 49 = .ok (.iconst 0, 1) := by decide +kernel
theorem dX9_copyFrom_50 : decode cX9_copyFrom 50 = .ok (.aload_n 0, 1) := by decide +kernel
theorem dX9_copyFrom_51 : decode cX9_copyFrom 51 = .ok (.getfield 21, 3) := by decide +kernel
theorem dX9_copyFrom_54 : decode cX9_copyFrom 54 = .ok (.iconst 0, 1) := by decide +kernel
theorem dX9_copyFrom_55 : decode cX9_copyFrom 55 = .ok (.bipush 8, 2) := by decide +kernel
theorem dX9_copyFrom_57 : decode cX9_copyFrom 57 = .ok (.invokestatic 37, 3) := by decide +kernel
theorem dX9_copyFrom_60 : decode cX9_copyFrom 60 = .ok (.aload_n 1, 1) := by decide +kernel
theorem dX9_copyFrom_61 : decode cX9_copyFrom 61 = .ok (.getfield 24, 3) := by decide +kernel
theorem dX9_copyFrom_64 : decode cX9_copyFrom 64 = .ok (.iconst 0, 1) := by decide +kernel
theorem dX9_copyFrom_65 : decode cX9_copyFrom 65 = .ok (.aload_n 0, 1) := by decide +kernel
theorem dX9_copyFrom_66 : decode cX9_copyFrom 66 = .ok (.getfield 24, 3) := by decide +kernel
theorem dX9_copyFrom_69 : decode cX9_copyFrom 69 = .ok (.iconst 0, 1) := by decide +kernel
theorem dX9_copyFrom_70 : decode cX9_copyFrom 70 = .ok (.bipush 8, 2) := by decide +kernel
theorem dX9_copyFrom_72 : decode cX9_copyFrom 72 = .ok (.invokestatic 37, 3) := by decide +kernel
theorem dX9_copyFrom_75 : decode cX9_copyFrom 75 = .ok (.aload_n 1, 1) := by decide +kernel
theorem dX9_copyFrom_76 : decode cX9_copyFrom 76 = .ok (.getfield 27, 3) := by decide +kernel
theorem dX9_copyFrom_79 : decode cX9_copyFrom 79 = .ok (.iconst 0, 1) := by decide +kernel
theorem dX9_copyFrom_80 : decode cX9_copyFrom 80 = .ok (.aload_n 0, 1) := by decide +kernel
theorem dX9_copyFrom_81 : decode cX9_copyFrom 81 = .ok (.getfield 27, 3) := by decide +kernel
theorem dX9_copyFrom_84 : decode cX9_copyFrom 84 = .ok (.iconst 0, 1) := by decide +kernel
theorem dX9_copyFrom_85 : decode cX9_copyFrom 85 = .ok (.bipush 8, 2) := by decide +kernel
theorem dX9_copyFrom_87 : decode cX9_copyFrom 87 = .ok (.invokestatic 37, 3) := by decide +kernel
theorem dX9_copyFrom_90 : decode cX9_copyFrom 90 = .ok (.aload_n 1, 1) := by decide +kernel
theorem dX9_copyFrom_91 : decode cX9_copyFrom 91 = .ok (.getfield 30, 3) := by decide +kernel
theorem dX9_copyFrom_94 : decode cX9_copyFrom 94 = .ok (.iconst 0, 1) := by decide +kernel
theorem dX9_copyFrom_95 : decode cX9_copyFrom 95 = .ok (.aload_n 0, 1) := by decide +kernel
theorem dX9_copyFrom_96 : decode cX9_copyFrom 96 = .ok (.getfield 30, 3) := by decide +kernel
theorem dX9_copyFrom_99 : decode cX9_copyFrom 99 = .ok (.iconst 0, 1) := by decide +kernel
theorem dX9_copyFrom_100 : decode cX9_copyFrom 100 = .ok (.bipush 8, 2) := by decide +kernel
theorem dX9_copyFrom_102 : decode cX9_copyFrom 102 = .ok (.invokestatic 37, 3) := by decide +kernel
theorem dX9_copyFrom_105 : decode cX9_copyFrom 105 = .ok (.aload_n 0, 1) := by decide +kernel
theorem dX9_copyFrom_106 : decode cX9_copyFrom 106 = .ok (.aload_n 1, 1) := by decide +kernel
theorem dX9_copyFrom_107 : decode cX9_copyFrom 107 = .ok (.getfield 43, 3) := by decide +kernel
theorem dX9_copyFrom_110 : decode cX9_copyFrom 110 = .ok (.putfield 43, 3) := by decide +kernel
theorem dX9_copyFrom_113 : decode cX9_copyFrom 113 = .ok (.aload_n 0, 1) := by decide +kernel
theorem dX9_copyFrom_114 : decode cX9_copyFrom 114 = .ok (.aload_n 1, 1) := by decide +kernel
theorem dX9_copyFrom_115 : decode cX9_copyFrom 115 = .ok (.getfield 46, 3) := by decide +kernel
theorem dX9_copyFrom_118 : decode cX9_copyFrom 118 = .ok (.putfield 46, 3) := by decide +kernel
theorem dX9_copyFrom_121 : decode cX9_copyFrom 121 = .ok (.aload_n 0, 1) := by decide +kernel
theorem dX9_copyFrom_122 : decode cX9_copyFrom 122 = .ok (.aload_n 1, 1) := by decide +kernel
theorem dX9_copyFrom_123 : decode cX9_copyFrom 123 = .ok (.getfield 33, 3) := by decide +kernel
theorem dX9_copyFrom_126 : decode cX9_copyFrom 126 = .ok (.putfield 33, 3) := by decide +kernel
theorem dX9_copyFrom_129 : decode cX9_copyFrom 129 = .ok (.return_, 1) := by decide +kernel
theorem dX9_launch_0 : decode cX9_launch 0 = .ok (.aload_n 0, 1) := by decide +kernel
theorem dX9_launch_1 : decode cX9_launch 1 = .ok (.getfield 43, 3) := by decide +kernel
theorem dX9_launch_4 : decode cX9_launch 4 = .ok (.istore_n 3, 1) := by decide +kernel
theorem dX9_launch_5 : decode cX9_launch 5 = .ok (.aload_n 0, 1) := by decide +kernel
theorem dX9_launch_6 : decode cX9_launch 6 = .ok (.getfield 21, 3) := by decide +kernel
theorem dX9_launch_9 : decode cX9_launch 9 = .ok (.iload_n 3, 1) := by decide +kernel
theorem dX9_launch_10 : decode cX9_launch 10 = .ok (.iload_n 1, 1) := by decide +kernel
theorem dX9_launch_11 : decode cX9_launch 11 = .ok (.bipush 10, 2) := by decide +kernel
theorem dX9_launch_13 : decode cX9_launch 13 = .ok (.idiv, 1) := by decide +kernel
theorem dX9_launch_14 : decode cX9_launch 14 = .ok (.iastore, 1) := by decide +kernel
theorem dX9_launch_15 : decode cX9_launch 15 = .ok (.aload_n 0, 1) := by decide +kernel
theorem dX9_launch_16 : decode cX9_launch 16 = .ok (.getfield 24, 3) := by decide +kernel
theorem dX9_launch_19 : decode cX9_launch 19 = .ok (.iload_n 3, 1) := by decide +kernel
theorem dX9_launch_20 : decode cX9_launch 20 = .ok (.iload_n 1, 1) := by decide +kernel
theorem dX9_launch_21 : decode cX9_launch 21 = .ok (.bipush 10, 2) := by decide +kernel
theorem dX9_launch_23 : decode cX9_launch 23 = .ok (.irem, 1) := by decide +kernel
theorem dX9_launch_24 : decode cX9_launch 24 = .ok (.iastore, 1) := by decide +kernel
theorem dX9_launch_25 : decode cX9_launch 25 = .ok (.aload_n 0, 1) := by decide +kernel
theorem dX9_launch_26 : decode cX9_launch 26 = .ok (.getfield 27, 3) := by decide +kernel
theorem dX9_launch_29 : decode cX9_launch 29 = .ok (.iload_n 3, 1) := by decide +kernel
theorem dX9_launch_30 : decode cX9_launch 30 = .ok (.iload_n 2, 1) := by decide +kernel
theorem dX9_launch_31 : decode cX9_launch 31 = .ok (.iastore, 1) := by decide +kernel
theorem dX9_launch_32 : decode cX9_launch 32 = .ok (.aload_n 0, 1) := by decide +kernel
theorem dX9_launch_33 : decode cX9_launch 33 = .ok (.getfield 30, 3) := by decide +kernel
theorem dX9_launch_36 : decode cX9_launch 36 = .ok (.iload_n 3, 1) := by decide +kernel
theorem dX9_launch_37 : decode cX9_launch 37 = .ok (.iconst 0, 1) := by decide +kernel
theorem dX9_launch_38 : decode cX9_launch 38 = .ok (.iastore, 1) := by decide +kernel
theorem dX9_launch_39 : decode cX9_launch 39 = .ok (.aload_n 0, 1) := by decide +kernel
theorem dX9_launch_40 : decode cX9_launch 40 = .ok (.dup, 1) := by decide +kernel
theorem dX9_launch_41 : decode cX9_launch 41 = .ok (.getfield 43, 3) := by decide +kernel
theorem dX9_launch_44 : decode cX9_launch 44 = .ok (.iconst 1, 1) := by decide +kernel
theorem dX9_launch_45 : decode cX9_launch 45 = .ok (.iadd, 1) := by decide +kernel
theorem dX9_launch_46 : decode cX9_launch 46 = .ok (.putfield 43, 3) := by decide +kernel
theorem dX9_launch_49 : decode cX9_launch 49 = .ok (.iload_n 3, 1) := by decide +kernel
theorem dX9_launch_50 : decode cX9_launch 50 = .ok (.ireturn, 1) := by decide +kernel
theorem dX9_had_0 : decode cX9_had 0 = .ok (.aload_n 0, 1) := by decide +kernel
theorem dX9_had_1 : decode cX9_had 1 = .ok (.getfield 30, 3) := by decide +kernel
theorem dX9_had_4 : decode cX9_had 4 = .ok (.aload_n 0, 1) := by decide +kernel
theorem dX9_had_5 : decode cX9_had 5 = .ok (.getfield 43, 3) := by decide +kernel
theorem dX9_had_8 : decode cX9_had 8 = .ok (.invokestatic 49, 3) := by decide +kernel
theorem dX9_had_11 : decode cX9_had 11 = .ok (.ireturn, 1) := by decide +kernel
theorem dX9_lying_0 : decode cX9_lying 0 = .ok (.aload_n 0, 1) := by decide +kernel
theorem dX9_lying_1 : decode cX9_lying 1 = .ok (.getfield 15, 3) := by decide +kernel
theorem dX9_lying_4 : decode cX9_lying 4 = .ok (.bipush 16, 2) := by decide +kernel
theorem dX9_lying_6 : decode cX9_lying 6 = .ok (.invokestatic 49, 3) := by decide +kernel
theorem dX9_lying_9 : decode cX9_lying 9 = .ok (.ireturn, 1) := by decide +kernel
theorem dX9_light_0 : decode cX9_light 0 = .ok (.aload_n 0, 1) := by decide +kernel
theorem dX9_light_1 : decode cX9_light 1 = .ok (.getfield 46, 3) := by decide +kernel
theorem dX9_light_4 : decode cX9_light 4 = .ok (.bipush 20, 2) := by decide +kernel
theorem dX9_light_6 : decode cX9_light 6 = .ok (.irem, 1) := by decide +kernel
theorem dX9_light_7 : decode cX9_light 7 = .ok (.aload_n 0, 1) := by decide +kernel
theorem dX9_light_8 : decode cX9_light 8 = .ok (.getfield 33, 3) := by decide +kernel
theorem dX9_light_11 : decode cX9_light 11 = .ok (.if_icmp .ge 7, 3) := by decide +kernel
theorem dX9_light_14 : decode cX9_light 14 = .ok (.iconst 0, 1) := by decide +kernel
theorem dX9_light_15 : decode cX9_light 15 = .ok (.goto 4, 3) := by decide +kernel
theorem dX9_light_18 : decode cX9_light 18 = .ok (.iconst 1, 1) := by decide +kernel
theorem dX9_light_19 : decode cX9_light 19 = .ok (.ireturn, 1) := by decide +kernel
theorem dX9_place_0 : decode cX9_place 0 = .ok (.aload_n 0, 1) := by decide +kernel
theorem dX9_place_1 : decode cX9_place 1 = .ok (.getfield 46, 3) := by decide +kernel
theorem dX9_place_4 : decode cX9_place 4 = .ok (.bipush 6, 2) := by decide +kernel
theorem dX9_place_6 : decode cX9_place 6 = .ok (.irem, 1) := by decide +kernel
theorem dX9_place_7 : decode cX9_place 7 = .ok (.ireturn, 1) := by decide +kernel
theorem dX9_boatsOn_0 : decode cX9_boatsOn 0 = .ok (.iconst 0, 1) := by decide +kernel
theorem dX9_boatsOn_1 : decode cX9_boatsOn 1 = .ok (.istore_n 2, 1) := by decide +kernel
theorem dX9_boatsOn_2 : decode cX9_boatsOn 2 = .ok (.iconst 0, 1) := by decide +kernel
theorem dX9_boatsOn_3 : decode cX9_boatsOn 3 = .ok (.istore_n 3, 1) := by decide +kernel
theorem dX9_boatsOn_4 : decode cX9_boatsOn 4 = .ok (.iload_n 3, 1) := by decide +kernel
theorem dX9_boatsOn_5 : decode cX9_boatsOn 5 = .ok (.aload_n 0, 1) := by decide +kernel
theorem dX9_boatsOn_6 : decode cX9_boatsOn 6 = .ok (.getfield 43, 3) := by decide +kernel
theorem dX9_boatsOn_9 : decode cX9_boatsOn 9 = .ok (.if_icmp .ge 25, 3) := by decide +kernel
theorem dX9_boatsOn_12 : decode cX9_boatsOn 12 = .ok (.aload_n 0, 1) := by decide +kernel
theorem dX9_boatsOn_13 : decode cX9_boatsOn 13 = .ok (.getfield 27, 3) := by decide +kernel
theorem dX9_boatsOn_16 : decode cX9_boatsOn 16 = .ok (.iload_n 3, 1) := by decide +kernel
theorem dX9_boatsOn_17 : decode cX9_boatsOn 17 = .ok (.iaload, 1) := by decide +kernel
theorem dX9_boatsOn_18 : decode cX9_boatsOn 18 = .ok (.iload_n 1, 1) := by decide +kernel
theorem dX9_boatsOn_19 : decode cX9_boatsOn 19 = .ok (.if_icmp .ne 9, 3) := by decide +kernel
theorem dX9_boatsOn_22 : decode cX9_boatsOn 22 = .ok (.iload_n 2, 1) := by decide +kernel
theorem dX9_boatsOn_23 : decode cX9_boatsOn 23 = .ok (.iconst 1, 1) := by decide +kernel
theorem dX9_boatsOn_24 : decode cX9_boatsOn 24 = .ok (.iload_n 3, 1) := by decide +kernel
theorem dX9_boatsOn_25 : decode cX9_boatsOn 25 = .ok (.ishl, 1) := by decide +kernel
theorem dX9_boatsOn_26 : decode cX9_boatsOn 26 = .ok (.ior, 1) := by decide +kernel
theorem dX9_boatsOn_27 : decode cX9_boatsOn 27 = .ok (.istore_n 2, 1) := by decide +kernel
theorem dX9_boatsOn_28 : decode cX9_boatsOn 28 = .ok (.iinc 3 1, 3) := by decide +kernel
theorem dX9_boatsOn_31 : decode cX9_boatsOn 31 = .ok (.goto (-27), 3) := by decide +kernel
theorem dX9_boatsOn_34 : decode cX9_boatsOn 34 = .ok (.iload_n 2, 1) := by decide +kernel
theorem dX9_boatsOn_35 : decode cX9_boatsOn 35 = .ok (.ireturn, 1) := by decide +kernel
theorem dX9_settlesOn_0 : decode cX9_settlesOn 0 = .ok (.aload_n 2, 1) := by decide +kernel
theorem dX9_settlesOn_1 : decode cX9_settlesOn 1 = .ok (.aload_n 0, 1) := by decide +kernel
theorem dX9_settlesOn_2 : decode cX9_settlesOn 2 = .ok (.getfield 15, 3) := by decide +kernel
theorem dX9_settlesOn_5 : decode cX9_settlesOn 5 = .ok (.iload_n 1, 1) := by decide +kernel
theorem dX9_settlesOn_6 : decode cX9_settlesOn 6 = .ok (.iaload, 1) := by decide +kernel
theorem dX9_settlesOn_7 : decode cX9_settlesOn 7 = .ok (.aload_n 0, 1) := by decide +kernel
theorem dX9_settlesOn_8 : decode cX9_settlesOn 8 = .ok (.getfield 9, 3) := by decide +kernel
theorem dX9_settlesOn_11 : decode cX9_settlesOn 11 = .ok (.iload_n 1, 1) := by decide +kernel
theorem dX9_settlesOn_12 : decode cX9_settlesOn 12 = .ok (.iaload, 1) := by decide +kernel
theorem dX9_settlesOn_13 : decode cX9_settlesOn 13 = .ok (.aload_n 0, 1) := by decide +kernel
theorem dX9_settlesOn_14 : decode cX9_settlesOn 14 = .ok (.getfield 46, 3) := by decide +kernel
theorem dX9_settlesOn_17 : decode cX9_settlesOn 17 = .ok (.bipush 20, 2) := by decide +kernel
theorem dX9_settlesOn_19 : decode cX9_settlesOn 19 = .ok (.irem, 1) := by decide +kernel
theorem dX9_settlesOn_20 : decode cX9_settlesOn 20 = .ok (.invokevirtual 53, 3) := by decide +kernel
theorem dX9_settlesOn_23 : decode cX9_settlesOn 23 = .ok (.ireturn, 1) := by decide +kernel
theorem dX9_dipsOf_0 : decode cX9_dipsOf 0 = .ok (.aload_n 0, 1) := by decide +kernel
theorem dX9_dipsOf_1 : decode cX9_dipsOf 1 = .ok (.getfield 21, 3) := by decide +kernel
theorem dX9_dipsOf_4 : decode cX9_dipsOf 4 = .ok (.iload_n 1, 1) := by decide +kernel
theorem dX9_dipsOf_5 : decode cX9_dipsOf 5 = .ok (.iaload, 1) := by decide +kernel
theorem dX9_dipsOf_6 : decode cX9_dipsOf 6 = .ok (.aload_n 0, 1) := by decide +kernel
theorem dX9_dipsOf_7 : decode cX9_dipsOf 7 = .ok (.getfield 24, 3) := by decide +kernel
theorem dX9_dipsOf_10 : decode cX9_dipsOf 10 = .ok (.iload_n 1, 1) := by decide +kernel
theorem dX9_dipsOf_11 : decode cX9_dipsOf 11 = .ok (.iaload, 1) := by decide +kernel
theorem dX9_dipsOf_12 : decode cX9_dipsOf 12 = .ok (.aload_n 0, 1) := by decide +kernel
theorem dX9_dipsOf_13 : decode cX9_dipsOf 13 = .ok (.getfield 15, 3) := by decide +kernel
theorem dX9_dipsOf_16 : decode cX9_dipsOf 16 = .ok (.aload_n 0, 1) := by decide +kernel
theorem dX9_dipsOf_17 : decode cX9_dipsOf 17 = .ok (.getfield 27, 3) := by decide +kernel
theorem dX9_dipsOf_20 : decode cX9_dipsOf 20 = .ok (.iload_n 1, 1) := by decide +kernel
theorem dX9_dipsOf_21 : decode cX9_dipsOf 21 = .ok (.iaload, 1) := by decide +kernel
theorem dX9_dipsOf_22 : decode cX9_dipsOf 22 = .ok (.iaload, 1) := by decide +kernel
theorem dX9_dipsOf_23 : decode cX9_dipsOf 23 = .ok (.invokestatic 59, 3) := by decide +kernel
theorem dX9_dipsOf_26 : decode cX9_dipsOf 26 = .ok (.ireturn, 1) := by decide +kernel
theorem dX9_goesOf_0 : decode cX9_goesOf 0 = .ok (.aload_n 0, 1) := by decide +kernel
theorem dX9_goesOf_1 : decode cX9_goesOf 1 = .ok (.getfield 21, 3) := by decide +kernel
theorem dX9_goesOf_4 : decode cX9_goesOf 4 = .ok (.iload_n 1, 1) := by decide +kernel
theorem dX9_goesOf_5 : decode cX9_goesOf 5 = .ok (.iaload, 1) := by decide +kernel
theorem dX9_goesOf_6 : decode cX9_goesOf 6 = .ok (.aload_n 0, 1) := by decide +kernel
theorem dX9_goesOf_7 : decode cX9_goesOf 7 = .ok (.getfield 24, 3) := by decide +kernel
theorem dX9_goesOf_10 : decode cX9_goesOf 10 = .ok (.iload_n 1, 1) := by decide +kernel
theorem dX9_goesOf_11 : decode cX9_goesOf 11 = .ok (.iaload, 1) := by decide +kernel
theorem dX9_goesOf_12 : decode cX9_goesOf 12 = .ok (.aload_n 0, 1) := by decide +kernel
theorem dX9_goesOf_13 : decode cX9_goesOf 13 = .ok (.getfield 18, 3) := by decide +kernel
theorem dX9_goesOf_16 : decode cX9_goesOf 16 = .ok (.aload_n 0, 1) := by decide +kernel
theorem dX9_goesOf_17 : decode cX9_goesOf 17 = .ok (.invokevirtual 64, 3) := by decide +kernel
theorem dX9_goesOf_20 : decode cX9_goesOf 20 = .ok (.iaload, 1) := by decide +kernel
theorem dX9_goesOf_21 : decode cX9_goesOf 21 = .ok (.aload_n 0, 1) := by decide +kernel
theorem dX9_goesOf_22 : decode cX9_goesOf 22 = .ok (.getfield 46, 3) := by decide +kernel
theorem dX9_goesOf_25 : decode cX9_goesOf 25 = .ok (.invokestatic 68, 3) := by decide +kernel
theorem dX9_goesOf_28 : decode cX9_goesOf 28 = .ok (.ireturn, 1) := by decide +kernel
theorem dX9_leaksOf_0 : decode cX9_leaksOf 0 = .ok (.aload_n 0, 1) := by decide +kernel
theorem dX9_leaksOf_1 : decode cX9_leaksOf 1 = .ok (.getfield 21, 3) := by decide +kernel
theorem dX9_leaksOf_4 : decode cX9_leaksOf 4 = .ok (.iload_n 1, 1) := by decide +kernel
theorem dX9_leaksOf_5 : decode cX9_leaksOf 5 = .ok (.iaload, 1) := by decide +kernel
theorem dX9_leaksOf_6 : decode cX9_leaksOf 6 = .ok (.aload_n 0, 1) := by decide +kernel
theorem dX9_leaksOf_7 : decode cX9_leaksOf 7 = .ok (.getfield 24, 3) := by decide +kernel
theorem dX9_leaksOf_10 : decode cX9_leaksOf 10 = .ok (.iload_n 1, 1) := by decide +kernel
theorem dX9_leaksOf_11 : decode cX9_leaksOf 11 = .ok (.iaload, 1) := by decide +kernel
theorem dX9_leaksOf_12 : decode cX9_leaksOf 12 = .ok (.invokestatic 72, 3) := by decide +kernel
theorem dX9_leaksOf_15 : decode cX9_leaksOf 15 = .ok (.ireturn, 1) := by decide +kernel
theorem dX9_lostOf_0 : decode cX9_lostOf 0 = .ok (.aload_n 2, 1) := by decide +kernel
theorem dX9_lostOf_1 : decode cX9_lostOf 1 = .ok (.aload_n 0, 1) := by decide +kernel
theorem dX9_lostOf_2 : decode cX9_lostOf 2 = .ok (.iload_n 1, 1) := by decide +kernel
theorem dX9_lostOf_3 : decode cX9_lostOf 3 = .ok (.invokevirtual 76, 3) := by decide +kernel
theorem dX9_lostOf_6 : decode cX9_lostOf 6 = .ok (.aload_n 0, 1) := by decide +kernel
theorem dX9_lostOf_7 : decode cX9_lostOf 7 = .ok (.getfield 30, 3) := by decide +kernel
theorem dX9_lostOf_10 : decode cX9_lostOf 10 = .ok (.iload_n 1, 1) := by decide +kernel
theorem dX9_lostOf_11 : decode cX9_lostOf 11 = .ok (.iaload, 1) := by decide +kernel
theorem dX9_lostOf_12 : decode cX9_lostOf 12 = .ok (.aload_n 0, 1) := by decide +kernel
theorem dX9_lostOf_13 : decode cX9_lostOf 13 = .ok (.invokevirtual 80, 3) := by decide +kernel
theorem dX9_lostOf_16 : decode cX9_lostOf 16 = .ok (.invokevirtual 83, 3) := by decide +kernel
theorem dX9_lostOf_19 : decode cX9_lostOf 19 = .ok (.ireturn, 1) := by decide +kernel
theorem dX9_pass_0 : decode cX9_pass 0 = .ok (.aload_n 0, 1) := by decide +kernel
theorem dX9_pass_1 : decode cX9_pass 1 = .ok (.invokevirtual 80, 3) := by decide +kernel
theorem dX9_pass_4 : decode cX9_pass 4 = .ok (.iconst 1, 1) := by decide +kernel
theorem dX9_pass_5 : decode cX9_pass 5 = .ok (.if_icmp .ne 7, 3) := by decide +kernel
theorem dX9_pass_8 : decode cX9_pass 8 = .ok (.iconst 1, 1) := by decide +kernel
theorem dX9_pass_9 : decode cX9_pass 9 = .ok (.goto 4, 3) := by decide +kernel
theorem dX9_pass_12 : decode cX9_pass 12 = .ok (.iconst 0, 1) := by decide +kernel
theorem dX9_pass_13 : decode cX9_pass 13 = .ok (.istore 4, 2) := by decide +kernel
theorem dX9_pass_15 : decode cX9_pass 15 = .ok (.iconst 0, 1) := by decide +kernel
theorem dX9_pass_16 : decode cX9_pass 16 = .ok (.istore 5, 2) := by decide +kernel
theorem dX9_pass_18 : decode cX9_pass 18 = .ok (.iload 5, 2) := by decide +kernel
theorem dX9_pass_20 : decode cX9_pass 20 = .ok (.bipush 16, 2) := by decide +kernel
theorem dX9_pass_22 : decode cX9_pass 22 = .ok (.if_icmp .ge 52, 3) := by decide +kernel
theorem dX9_pass_25 : decode cX9_pass 25 = .ok (.aload_n 0, 1) := by decide +kernel
theorem dX9_pass_26 : decode cX9_pass 26 = .ok (.getfield 15, 3) := by decide +kernel
theorem dX9_pass_29 : decode cX9_pass 29 = .ok (.iload 5, 2) := by decide +kernel
theorem dX9_pass_31 : decode cX9_pass 31 = .ok (.iload 4, 2) := by decide +kernel
theorem dX9_pass_33 : decode cX9_pass 33 = .ok (.ifCond .eq 16, 3) := by decide +kernel
theorem dX9_pass_36 : decode cX9_pass 36 = .ok (.aload_n 0, 1) := by decide +kernel
theorem dX9_pass_37 : decode cX9_pass 37 = .ok (.getfield 15, 3) := by decide +kernel
theorem dX9_pass_40 : decode cX9_pass 40 = .ok (.iload 5, 2) := by decide +kernel
theorem dX9_pass_42 : decode cX9_pass 42 = .ok (.iaload, 1) := by decide +kernel
theorem dX9_pass_43 : decode cX9_pass 43 = .ok (.bipush 7, 2) := by decide +kernel
theorem dX9_pass_45 : decode cX9_pass 45 = .ok (.isub, 1) := by decide +kernel
theorem dX9_pass_46 : decode cX9_pass 46 = .ok (.goto 18, 3) := by decide +kernel
theorem dX9_pass_49 : decode cX9_pass 49 = .ok (.aload_n 0, 1) := by decide +kernel
theorem dX9_pass_50 : decode cX9_pass 50 = .ok (.getfield 15, 3) := by decide +kernel
theorem dX9_pass_53 : decode cX9_pass 53 = .ok (.iload 5, 2) := by decide +kernel
theorem dX9_pass_55 : decode cX9_pass 55 = .ok (.iaload, 1) := by decide +kernel
theorem dX9_pass_56 : decode cX9_pass 56 = .ok (.aload_n 0, 1) := by decide +kernel
theorem dX9_pass_57 : decode cX9_pass 57 = .ok (.iload 5, 2) := by decide +kernel
theorem dX9_pass_59 : decode cX9_pass 59 = .ok (.aload_n 1, 1) := by decide +kernel
theorem dX9_pass_60 : decode cX9_pass 60 = .ok (.invokevirtual 86, 3) := by decide +kernel
theorem dX9_pass_63 : decode cX9_pass 63 = .ok (.iadd, 1) := by decide +kernel
theorem dX9_pass_64 : decode cX9_pass 64 = .ok (.invokestatic 90, 3) := by decide +kernel
theorem dX9_pass_67 : decode cX9_pass 67 = .ok (.iastore, 1) := by decide +kernel
theorem dX9_pass_68 : decode cX9_pass 68 = .ok (.iinc 5 1, 3) := by decide +kernel
theorem dX9_pass_71 : decode cX9_pass 71 = .ok (.goto (-53), 3) := by decide +kernel
theorem dX9_pass_74 : decode cX9_pass 74 = .ok (.iconst 0, 1) := by decide +kernel
theorem dX9_pass_75 : decode cX9_pass 75 = .ok (.istore 5, 2) := by decide +kernel
theorem dX9_pass_77 : decode cX9_pass 77 = .ok (.iload 5, 2) := by decide +kernel
theorem dX9_pass_79 : decode cX9_pass 79 = .ok (.aload_n 0, 1) := by decide +kernel
theorem dX9_pass_80 : decode cX9_pass 80 = .ok (.getfield 43, 3) := by decide +kernel
theorem dX9_pass_83 : decode cX9_pass 83 = .ok (.if_icmp .ge 15, 3) := by decide +kernel
theorem dX9_pass_86 : decode cX9_pass 86 = .ok (.aload_n 0, 1) := by decide +kernel
theorem dX9_pass_87 : decode cX9_pass 87 = .ok (.iload 5, 2) := by decide +kernel
theorem dX9_pass_89 : decode cX9_pass 89 = .ok (.invokevirtual 93, 3) := by decide +kernel
theorem dX9_pass_92 : decode cX9_pass 92 = .ok (.iinc 5 1, 3) := by decide +kernel
theorem dX9_pass_95 : decode cX9_pass 95 = .ok (.goto (-18), 3) := by decide +kernel
theorem dX9_pass_98 : decode cX9_pass 98 = .ok (.iconst 0, 1) := by decide +kernel
theorem dX9_pass_99 : decode cX9_pass 99 = .ok (.istore 5, 2) := by decide +kernel
theorem dX9_pass_101 : decode cX9_pass 101 = .ok (.iload 5, 2) := by decide +kernel
theorem dX9_pass_103 : decode cX9_pass 103 = .ok (.aload_n 0, 1) := by decide +kernel
theorem dX9_pass_104 : decode cX9_pass 104 = .ok (.getfield 43, 3) := by decide +kernel
theorem dX9_pass_107 : decode cX9_pass 107 = .ok (.if_icmp .ge 42, 3) := by decide +kernel
theorem dX9_pass_110 : decode cX9_pass 110 = .ok (.aload_n 0, 1) := by decide +kernel
theorem dX9_pass_111 : decode cX9_pass 111 = .ok (.getfield 27, 3) := by decide +kernel
theorem dX9_pass_114 : decode cX9_pass 114 = .ok (.iload 5, 2) := by decide +kernel
theorem dX9_pass_116 : decode cX9_pass 116 = .ok (.aload_n 0, 1) := by decide +kernel
theorem dX9_pass_117 : decode cX9_pass 117 = .ok (.getfield 27, 3) := by decide +kernel
theorem dX9_pass_120 : decode cX9_pass 120 = .ok (.iload 5, 2) := by decide +kernel
theorem dX9_pass_122 : decode cX9_pass 122 = .ok (.iaload, 1) := by decide +kernel
theorem dX9_pass_123 : decode cX9_pass 123 = .ok (.iload 5, 2) := by decide +kernel
theorem dX9_pass_125 : decode cX9_pass 125 = .ok (.iload_n 2, 1) := by decide +kernel
theorem dX9_pass_126 : decode cX9_pass 126 = .ok (.if_icmp .ne 7, 3) := by decide +kernel
theorem dX9_pass_129 : decode cX9_pass 129 = .ok (.iload_n 3, 1) := by decide +kernel
theorem dX9_pass_130 : decode cX9_pass 130 = .ok (.goto 9, 3) := by decide +kernel
theorem dX9_pass_133 : decode cX9_pass 133 = .ok (.aload_n 0, 1) := by decide +kernel
theorem dX9_pass_134 : decode cX9_pass 134 = .ok (.iload 5, 2) := by decide +kernel
theorem dX9_pass_136 : decode cX9_pass 136 = .ok (.invokevirtual 97, 3) := by decide +kernel
theorem dX9_pass_139 : decode cX9_pass 139 = .ok (.invokestatic 100, 3) := by decide +kernel
theorem dX9_pass_142 : decode cX9_pass 142 = .ok (.iastore, 1) := by decide +kernel
theorem dX9_pass_143 : decode cX9_pass 143 = .ok (.iinc 5 1, 3) := by decide +kernel
theorem dX9_pass_146 : decode cX9_pass 146 = .ok (.goto (-45), 3) := by decide +kernel
theorem dX9_pass_149 : decode cX9_pass 149 = .ok (.iconst 0, 1) := by decide +kernel
theorem dX9_pass_150 : decode cX9_pass 150 = .ok (.istore 5, 2) := by decide +kernel
theorem dX9_pass_152 : decode cX9_pass 152 = .ok (.iload 5, 2) := by decide +kernel
theorem dX9_pass_154 : decode cX9_pass 154 = .ok (.aload_n 0, 1) := by decide +kernel
theorem dX9_pass_155 : decode cX9_pass 155 = .ok (.getfield 43, 3) := by decide +kernel
theorem dX9_pass_158 : decode cX9_pass 158 = .ok (.if_icmp .ge 35, 3) := by decide +kernel
theorem dX9_pass_161 : decode cX9_pass 161 = .ok (.aload_n 0, 1) := by decide +kernel
theorem dX9_pass_162 : decode cX9_pass 162 = .ok (.getfield 30, 3) := by decide +kernel
theorem dX9_pass_165 : decode cX9_pass 165 = .ok (.iload 5, 2) := by decide +kernel
theorem dX9_pass_167 : decode cX9_pass 167 = .ok (.iconst 0, 1) := by decide +kernel
theorem dX9_pass_168 : decode cX9_pass 168 = .ok (.aload_n 0, 1) := by decide +kernel
theorem dX9_pass_169 : decode cX9_pass 169 = .ok (.getfield 30, 3) := by decide +kernel
theorem dX9_pass_172 : decode cX9_pass 172 = .ok (.iload 5, 2) := by decide +kernel
theorem dX9_pass_174 : decode cX9_pass 174 = .ok (.iaload, 1) := by decide +kernel
theorem dX9_pass_175 : decode cX9_pass 175 = .ok (.aload_n 0, 1) := by decide +kernel
theorem dX9_pass_176 : decode cX9_pass 176 = .ok (.iload 5, 2) := by decide +kernel
theorem dX9_pass_178 : decode cX9_pass 178 = .ok (.aload_n 1, 1) := by decide +kernel
theorem dX9_pass_179 : decode cX9_pass 179 = .ok (.invokevirtual 103, 3) := by decide +kernel
theorem dX9_pass_182 : decode cX9_pass 182 = .ok (.isub, 1) := by decide +kernel
theorem dX9_pass_183 : decode cX9_pass 183 = .ok (.invokestatic 106, 3) := by decide +kernel
theorem dX9_pass_186 : decode cX9_pass 186 = .ok (.iastore, 1) := by decide +kernel
theorem dX9_pass_187 : decode cX9_pass 187 = .ok (.iinc 5 1, 3) := by decide +kernel
theorem dX9_pass_190 : decode cX9_pass 190 = .ok (.goto (-38), 3) := by decide +kernel
theorem dX9_pass_193 : decode cX9_pass 193 = .ok (.aload_n 0, 1) := by decide +kernel
theorem dX9_pass_194 : decode cX9_pass 194 = .ok (.dup, 1) := by decide +kernel
theorem dX9_pass_195 : decode cX9_pass 195 = .ok (.getfield 46, 3) := by decide +kernel
theorem dX9_pass_198 : decode cX9_pass 198 = .ok (.iconst 1, 1) := by decide +kernel
theorem dX9_pass_199 : decode cX9_pass 199 = .ok (.iadd, 1) := by decide +kernel
theorem dX9_pass_200 : decode cX9_pass 200 = .ok (.putfield 46, 3) := by decide +kernel
theorem dX9_pass_203 : decode cX9_pass 203 = .ok (.return_, 1) := by decide +kernel
theorem dX9_dip_0 : decode cX9_dip 0 = .ok (.aload_n 0, 1) := by decide +kernel
theorem dX9_dip_1 : decode cX9_dip 1 = .ok (.getfield 27, 3) := by decide +kernel
theorem dX9_dip_4 : decode cX9_dip 4 = .ok (.iload_n 1, 1) := by decide +kernel
theorem dX9_dip_5 : decode cX9_dip 5 = .ok (.iaload, 1) := by decide +kernel
theorem dX9_dip_6 : decode cX9_dip 6 = .ok (.istore_n 2, 1) := by decide +kernel
theorem dX9_dip_7 : decode cX9_dip 7 = .ok (.aload_n 0, 1) := by decide +kernel
theorem dX9_dip_8 : decode cX9_dip 8 = .ok (.iload_n 1, 1) := by decide +kernel
theorem dX9_dip_9 : decode cX9_dip 9 = .ok (.invokevirtual 111, 3) := by decide +kernel
theorem dX9_dip_12 : decode cX9_dip 12 = .ok (.aload_n 0, 1) := by decide +kernel
theorem dX9_dip_13 : decode cX9_dip 13 = .ok (.getfield 15, 3) := by decide +kernel
theorem dX9_dip_16 : decode cX9_dip 16 = .ok (.iload_n 2, 1) := by decide +kernel
theorem dX9_dip_17 : decode cX9_dip 17 = .ok (.iaload, 1) := by decide +kernel
theorem dX9_dip_18 : decode cX9_dip 18 = .ok (.bipush 99, 2) := by decide +kernel
theorem dX9_dip_20 : decode cX9_dip 20 = .ok (.aload_n 0, 1) := by decide +kernel
theorem dX9_dip_21 : decode cX9_dip 21 = .ok (.getfield 30, 3) := by decide +kernel
theorem dX9_dip_24 : decode cX9_dip 24 = .ok (.iload_n 1, 1) := by decide +kernel
theorem dX9_dip_25 : decode cX9_dip 25 = .ok (.iaload, 1) := by decide +kernel
theorem dX9_dip_26 : decode cX9_dip 26 = .ok (.isub, 1) := by decide +kernel
theorem dX9_dip_27 : decode cX9_dip 27 = .ok (.invokestatic 114, 3) := by decide +kernel
theorem dX9_dip_30 : decode cX9_dip 30 = .ok (.invokestatic 114, 3) := by decide +kernel
theorem dX9_dip_33 : decode cX9_dip 33 = .ok (.istore_n 3, 1) := by decide +kernel
theorem dX9_dip_34 : decode cX9_dip 34 = .ok (.aload_n 0, 1) := by decide +kernel
theorem dX9_dip_35 : decode cX9_dip 35 = .ok (.getfield 15, 3) := by decide +kernel
theorem dX9_dip_38 : decode cX9_dip 38 = .ok (.iload_n 2, 1) := by decide +kernel
theorem dX9_dip_39 : decode cX9_dip 39 = .ok (.dup2, 1) := by decide +kernel
theorem dX9_dip_40 : decode cX9_dip 40 = .ok (.iaload, 1) := by decide +kernel
theorem dX9_dip_41 : decode cX9_dip 41 = .ok (.iload_n 3, 1) := by decide +kernel
theorem dX9_dip_42 : decode cX9_dip 42 = .ok (.isub, 1) := by decide +kernel
theorem dX9_dip_43 : decode cX9_dip 43 = .ok (.iastore, 1) := by decide +kernel
theorem dX9_dip_44 : decode cX9_dip 44 = .ok (.aload_n 0, 1) := by decide +kernel
theorem dX9_dip_45 : decode cX9_dip 45 = .ok (.getfield 30, 3) := by decide +kernel
theorem dX9_dip_48 : decode cX9_dip 48 = .ok (.iload_n 1, 1) := by decide +kernel
theorem dX9_dip_49 : decode cX9_dip 49 = .ok (.dup2, 1) := by decide +kernel
theorem dX9_dip_50 : decode cX9_dip 50 = .ok (.iaload, 1) := by decide +kernel
theorem dX9_dip_51 : decode cX9_dip 51 = .ok (.iload_n 3, 1) := by decide +kernel
theorem dX9_dip_52 : decode cX9_dip 52 = .ok (.iadd, 1) := by decide +kernel
theorem dX9_dip_53 : decode cX9_dip 53 = .ok (.iastore, 1) := by decide +kernel
theorem dX9_dip_54 : decode cX9_dip 54 = .ok (.return_, 1) := by decide +kernel
theorem dX9_beside_0 : decode cX9_beside 0 = .ok (.iload_n 1, 1) := by decide +kernel
theorem dX9_beside_1 : decode cX9_beside 1 = .ok (.tableswitch 87 1 4 #[31, 44, 59, 73], 31) := by decide +kernel
theorem dX9_beside_32 : decode cX9_beside 32 = .ok (.iload_n 0, 1) := by decide +kernel
theorem dX9_beside_33 : decode cX9_beside 33 = .ok (.iconst 4, 1) := by decide +kernel
theorem dX9_beside_34 : decode cX9_beside 34 = .ok (.if_icmp .lt 9, 3) := by decide +kernel
theorem dX9_beside_37 : decode cX9_beside 37 = .ok (.iload_n 0, 1) := by decide +kernel
theorem dX9_beside_38 : decode cX9_beside 38 = .ok (.iconst 4, 1) := by decide +kernel
theorem dX9_beside_39 : decode cX9_beside 39 = .ok (.isub, 1) := by decide +kernel
theorem dX9_beside_40 : decode cX9_beside 40 = .ok (.goto 4, 3) := by decide +kernel
theorem dX9_beside_43 : decode cX9_beside 43 = .ok (.iload_n 0, 1) := by decide +kernel
theorem dX9_beside_44 : decode cX9_beside 44 = .ok (.ireturn, 1) := by decide +kernel
theorem dX9_beside_45 : decode cX9_beside 45 = .ok (.iload_n 0, 1) := by decide +kernel
theorem dX9_beside_46 : decode cX9_beside 46 = .ok (.iconst 4, 1) := by decide +kernel
theorem dX9_beside_47 : decode cX9_beside 47 = .ok (.irem, 1) := by decide +kernel
theorem dX9_beside_48 : decode cX9_beside 48 = .ok (.iconst 3, 1) := by decide +kernel
theorem dX9_beside_49 : decode cX9_beside 49 = .ok (.if_icmp .ge 9, 3) := by decide +kernel
theorem dX9_beside_52 : decode cX9_beside 52 = .ok (.iload_n 0, 1) := by decide +kernel
theorem dX9_beside_53 : decode cX9_beside 53 = .ok (.iconst 1, 1) := by decide +kernel
theorem dX9_beside_54 : decode cX9_beside 54 = .ok (.iadd, 1) := by decide +kernel
theorem dX9_beside_55 : decode cX9_beside 55 = .ok (.goto 4, 3) := by decide +kernel
theorem dX9_beside_58 : decode cX9_beside 58 = .ok (.iload_n 0, 1) := by decide +kernel
theorem dX9_beside_59 : decode cX9_beside 59 = .ok (.ireturn, 1) := by decide +kernel
theorem dX9_beside_60 : decode cX9_beside 60 = .ok (.iload_n 0, 1) := by decide +kernel
theorem dX9_beside_61 : decode cX9_beside 61 = .ok (.bipush 12, 2) := by decide +kernel
theorem dX9_beside_63 : decode cX9_beside 63 = .ok (.if_icmp .ge 9, 3) := by decide +kernel
theorem dX9_beside_66 : decode cX9_beside 66 = .ok (.iload_n 0, 1) := by decide +kernel
theorem dX9_beside_67 : decode cX9_beside 67 = .ok (.iconst 4, 1) := by decide +kernel
theorem dX9_beside_68 : decode cX9_beside 68 = .ok (.iadd, 1) := by decide +kernel
theorem dX9_beside_69 : decode cX9_beside 69 = .ok (.goto 4, 3) := by decide +kernel
theorem dX9_beside_72 : decode cX9_beside 72 = .ok (.iload_n 0, 1) := by decide +kernel
theorem dX9_beside_73 : decode cX9_beside 73 = .ok (.ireturn, 1) := by decide +kernel
theorem dX9_beside_74 : decode cX9_beside 74 = .ok (.iload_n 0, 1) := by decide +kernel
theorem dX9_beside_75 : decode cX9_beside 75 = .ok (.iconst 4, 1) := by decide +kernel
theorem dX9_beside_76 : decode cX9_beside 76 = .ok (.irem, 1) := by decide +kernel
theorem dX9_beside_77 : decode cX9_beside 77 = .ok (.ifCond .le 9, 3) := by decide +kernel
theorem dX9_beside_80 : decode cX9_beside 80 = .ok (.iload_n 0, 1) := by decide +kernel
theorem dX9_beside_81 : decode cX9_beside 81 = .ok (.iconst 1, 1) := by decide +kernel
theorem dX9_beside_82 : decode cX9_beside 82 = .ok (.isub, 1) := by decide +kernel
theorem dX9_beside_83 : decode cX9_beside 83 = .ok (.goto 4, 3) := by decide +kernel
theorem dX9_beside_86 : decode cX9_beside 86 = .ok (.iload_n 0, 1) := by decide +kernel
theorem dX9_beside_87 : decode cX9_beside 87 = .ok (.ireturn, 1) := by decide +kernel
theorem dX9_beside_88 : decode cX9_beside 88 = .ok (.iload_n 0, 1) := by decide +kernel
theorem dX9_beside_89 : decode cX9_beside 89 = .ok (.ireturn, 1) := by decide +kernel
theorem dX10_init_0 : decode cX10_init 0 = .ok (.aload_n 0, 1) := by decide +kernel
theorem dX10_init_1 : decode cX10_init 1 = .ok (.invokespecial 1, 3) := by decide +kernel
theorem dX10_init_4 : decode cX10_init 4 = .ok (.aload_n 0, 1) := by decide +kernel
theorem dX10_init_5 : decode cX10_init 5 = .ok (.new 7, 3) := by decide +kernel
theorem dX10_init_8 : decode cX10_init 8 = .ok (.dup, 1) := by decide +kernel
theorem dX10_init_9 : decode cX10_init 9 = .ok (.invokespecial 9, 3) := by decide +kernel
theorem dX10_init_12 : decode cX10_init 12 = .ok (.putfield 10, 3) := by decide +kernel
theorem dX10_init_15 : decode cX10_init 15 = .ok (.aload_n 0, 1) := by decide +kernel
theorem dX10_init_16 : decode cX10_init 16 = .ok (.new 7, 3) := by decide +kernel
theorem dX10_init_19 : decode cX10_init 19 = .ok (.dup, 1) := by decide +kernel
theorem dX10_init_20 : decode cX10_init 20 = .ok (.invokespecial 9, 3) := by decide +kernel
theorem dX10_init_23 : decode cX10_init 23 = .ok (.putfield 16, 3) := by decide +kernel
theorem dX10_init_26 : decode cX10_init 26 = .ok (.aload_n 0, 1) := by decide +kernel
theorem dX10_init_27 : decode cX10_init 27 = .ok (.iconst 5, 1) := by decide +kernel
theorem dX10_init_28 : decode cX10_init 28 = .ok (.anewarray 19, 3) := by decide +kernel
theorem dX10_init_31 : decode cX10_init 31 = .ok (.putfield 21, 3) := by decide +kernel
theorem dX10_init_34 : decode cX10_init 34 = .ok (.aload_n 0, 1) := by decide +kernel
theorem dX10_init_35 : decode cX10_init 35 = .ok (.new 25, 3) := by decide +kernel
theorem dX10_init_38 : decode cX10_init 38 = .ok (.dup, 1) := by decide +kernel
theorem dX10_init_39 : decode cX10_init 39 = .ok (.invokespecial 27, 3) := by decide +kernel
theorem dX10_init_42 : decode cX10_init 42 = .ok (.putfield 28, 3) := by decide +kernel
theorem dX10_init_45 : decode cX10_init 45 = .ok (.aload_n 0, 1) := by decide +kernel
theorem dX10_init_46 : decode cX10_init 46 = .ok (.new 32, 3) := by decide +kernel
theorem dX10_init_49 : decode cX10_init 49 = .ok (.dup, 1) := by decide +kernel
theorem dX10_init_50 : decode cX10_init 50 = .ok (.invokespecial 34, 3) := by decide +kernel
theorem dX10_init_53 : decode cX10_init 53 = .ok (.putfield 35, 3) := by decide +kernel
theorem dX10_init_56 : decode cX10_init 56 = .ok (.aload_n 0, 1) := by decide +kernel
theorem dX10_init_57 : decode cX10_init 57 = .ok (.new 39, 3) := by decide +kernel
theorem dX10_init_60 : decode cX10_init 60 = .ok (.dup, 1) := by decide +kernel
theorem dX10_init_61 : decode cX10_init 61 = .ok (.invokespecial 41, 3) := by decide +kernel
theorem dX10_init_64 : decode cX10_init 64 = .ok (.putfield 42, 3) := by decide +kernel
theorem dX10_init_67 : decode cX10_init 67 = .ok (.aload_n 0, 1) := by decide +kernel
theorem dX10_init_68 : decode cX10_init 68 = .ok (.iconst 4, 1) := by decide +kernel
theorem dX10_init_69 : decode cX10_init 69 = .ok (.anewarray 46, 3) := by decide +kernel
theorem dX10_init_72 : decode cX10_init 72 = .ok (.putfield 48, 3) := by decide +kernel
theorem dX10_init_75 : decode cX10_init 75 = .ok (.aload_n 0, 1) := by decide +kernel
theorem dX10_init_76 : decode cX10_init 76 = .ok (.bipush 6, 2) := by decide +kernel
theorem dX10_init_78 : decode cX10_init 78 = .ok (.newarray .int, 2) := by decide +kernel
theorem dX10_init_80 : decode cX10_init 80 = .ok (.putfield 52, 3) := by decide +kernel
theorem dX10_init_83 : decode cX10_init 83 = .ok (.iconst 0, 1) := by decide +kernel
theorem dX10_init_84 : decode cX10_init 84 = .ok (.istore_n 1, 1) := by decide +kernel
theorem dX10_init_85 : decode cX10_init 85 = .ok (.iload_n 1, 1) := by decide +kernel
theorem dX10_init_86 : decode cX10_init 86 = .ok (.iconst 4, 1) := by decide +kernel
theorem dX10_init_87 : decode cX10_init 87 = .ok (.if_icmp .gt 22, 3) := by decide +kernel
theorem dX10_init_90 : decode cX10_init 90 = .ok (.aload_n 0, 1) := by decide +kernel
theorem dX10_init_91 : decode cX10_init 91 = .ok (.getfield 21, 3) := by decide +kernel
theorem dX10_init_94 : decode cX10_init 94 = .ok (.iload_n 1, 1) := by decide +kernel
theorem dX10_init_95 : decode cX10_init 95 = .ok (.new 19, 3) := by decide +kernel
theorem dX10_init_98 : decode cX10_init 98 = .ok (.dup, 1) := by decide +kernel
theorem dX10_init_99 : decode cX10_init 99 = .ok (.invokespecial 56, 3) := by decide +kernel
theorem dX10_init_102 : decode cX10_init 102 = .ok (.aastore, 1) := by decide +kernel
theorem dX10_init_103 : decode cX10_init 103 = .ok (.iinc 1 1, 3) := by decide +kernel
theorem dX10_init_106 : decode cX10_init 106 = .ok (.goto (-21), 3) := by decide +kernel
theorem dX10_init_109 : decode cX10_init 109 = .ok (.iconst 0, 1) := by decide +kernel
theorem dX10_init_110 : decode cX10_init 110 = .ok (.istore_n 1, 1) := by decide +kernel
theorem dX10_init_111 : decode cX10_init 111 = .ok (.iload_n 1, 1) := by decide +kernel
theorem dX10_init_112 : decode cX10_init 112 = .ok (.iconst 4, 1) := by decide +kernel
theorem dX10_init_113 : decode cX10_init 113 = .ok (.if_icmp .ge 22, 3) := by decide +kernel
theorem dX10_init_116 : decode cX10_init 116 = .ok (.aload_n 0, 1) := by decide +kernel
theorem dX10_init_117 : decode cX10_init 117 = .ok (.getfield 48, 3) := by decide +kernel
theorem dX10_init_120 : decode cX10_init 120 = .ok (.iload_n 1, 1) := by decide +kernel
theorem dX10_init_121 : decode cX10_init 121 = .ok (.new 46, 3) := by decide +kernel
theorem dX10_init_124 : decode cX10_init 124 = .ok (.dup, 1) := by decide +kernel
theorem dX10_init_125 : decode cX10_init 125 = .ok (.invokespecial 57, 3) := by decide +kernel
theorem dX10_init_128 : decode cX10_init 128 = .ok (.aastore, 1) := by decide +kernel
theorem dX10_init_129 : decode cX10_init 129 = .ok (.iinc 1 1, 3) := by decide +kernel
theorem dX10_init_132 : decode cX10_init 132 = .ok (.goto (-21), 3) := by decide +kernel
theorem dX10_init_135 : decode cX10_init 135 = .ok (.return_, 1) := by decide +kernel
theorem dX10_cell_0 : decode cX10_cell 0 = .ok (.iload_n 1, 1) := by decide +kernel
theorem dX10_cell_1 : decode cX10_cell 1 = .ok (.bipush 15, 2) := by decide +kernel
theorem dX10_cell_3 : decode cX10_cell 3 = .ok (.invokestatic 58, 3) := by decide +kernel
theorem dX10_cell_6 : decode cX10_cell 6 = .ok (.ifCond .ne 29, 3) := by decide +kernel
theorem dX10_cell_9 : decode cX10_cell 9 = .ok (.iload_n 2, 1) := by decide +kernel
theorem dX10_cell_10 : decode cX10_cell 10 = .ok (.iconst 1, 1) := by decide +kernel
theorem dX10_cell_11 : decode cX10_cell 11 = .ok (.invokestatic 58, 3) := by decide +kernel
theorem dX10_cell_14 : decode cX10_cell 14 = .ok (.ifCond .ne 21, 3) := by decide +kernel
theorem dX10_cell_17 : decode cX10_cell 17 = .ok (.iload_n 3, 1) := by decide +kernel
theorem dX10_cell_18 : decode cX10_cell 18 = .ok (.iload_n 2, 1) := by decide +kernel
theorem dX10_cell_19 : decode cX10_cell 19 = .ok (.ifCond .ne 8, 3) := by decide +kernel
theorem dX10_cell_22 : decode cX10_cell 22 = .ok (.bipush 9, 2) := by decide +kernel
theorem dX10_cell_24 : decode cX10_cell 24 = .ok (.goto 5, 3) := by decide +kernel
theorem dX10_cell_27 : decode cX10_cell 27 = .ok (.bipush 99, 2) := by decide +kernel
theorem dX10_cell_29 : decode cX10_cell 29 = .ok (.invokestatic 58, 3) := by decide +kernel
theorem dX10_cell_32 : decode cX10_cell 32 = .ok (.ifCond .eq 9, 3) := by decide +kernel
theorem dX10_cell_35 : decode cX10_cell 35 = .ok (.aload_n 0, 1) := by decide +kernel
theorem dX10_cell_36 : decode cX10_cell 36 = .ok (.iconst 1, 1) := by decide +kernel
theorem dX10_cell_37 : decode cX10_cell 37 = .ok (.invokevirtual 62, 3) := by decide +kernel
theorem dX10_cell_40 : decode cX10_cell 40 = .ok (.ireturn, 1) := by decide +kernel
theorem dX10_cell_41 : decode cX10_cell 41 = .ok (.iload_n 2, 1) := by decide +kernel
theorem dX10_cell_42 : decode cX10_cell 42 = .ok (.ifCond .ne 16, 3) := by decide +kernel
theorem dX10_cell_45 : decode cX10_cell 45 = .ok (.aload_n 0, 1) := by decide +kernel
theorem dX10_cell_46 : decode cX10_cell 46 = .ok (.getfield 10, 3) := by decide +kernel
theorem dX10_cell_49 : decode cX10_cell 49 = .ok (.getfield 66, 3) := by decide +kernel
theorem dX10_cell_52 : decode cX10_cell 52 = .ok (.getfield 70, 3) := by decide +kernel
theorem dX10_cell_55 : decode cX10_cell 55 = .ok (.goto 13, 3) := by decide +kernel
theorem dX10_cell_58 : decode cX10_cell 58 = .ok (.aload_n 0, 1) := by decide +kernel
theorem dX10_cell_59 : decode cX10_cell 59 = .ok (.getfield 10, 3) := by decide +kernel
theorem dX10_cell_62 : decode cX10_cell 62 = .ok (.getfield 66, 3) := by decide +kernel
theorem dX10_cell_65 : decode cX10_cell 65 = .ok (.getfield 73, 3) := by decide +kernel
theorem dX10_cell_68 : decode cX10_cell 68 = .ok (.iload_n 1, 1) := by decide +kernel
theorem dX10_cell_69 : decode cX10_cell 69 = .ok (.iload_n 3, 1) := by decide +kernel
theorem dX10_cell_70 : decode cX10_cell 70 = .ok (.invokestatic 76, 3) := by decide +kernel
theorem dX10_cell_73 : decode cX10_cell 73 = .ok (.ireturn, 1) := by decide +kernel
theorem dX10_ofCell_0 : decode cX10_ofCell 0 = .ok (.iload_n 1, 1) := by decide +kernel
theorem dX10_ofCell_1 : decode cX10_ofCell 1 = .ok (.bipush 15, 2) := by decide +kernel
theorem dX10_ofCell_3 : decode cX10_ofCell 3 = .ok (.invokestatic 58, 3) := by decide +kernel
theorem dX10_ofCell_6 : decode cX10_ofCell 6 = .ok (.ifCond .ne 11, 3) := by decide +kernel
theorem dX10_ofCell_9 : decode cX10_ofCell 9 = .ok (.iload_n 2, 1) := by decide +kernel
theorem dX10_ofCell_10 : decode cX10_ofCell 10 = .ok (.iconst 3, 1) := by decide +kernel
theorem dX10_ofCell_11 : decode cX10_ofCell 11 = .ok (.invokestatic 58, 3) := by decide +kernel
theorem dX10_ofCell_14 : decode cX10_ofCell 14 = .ok (.ifCond .eq 9, 3) := by decide +kernel
theorem dX10_ofCell_17 : decode cX10_ofCell 17 = .ok (.aload_n 0, 1) := by decide +kernel
theorem dX10_ofCell_18 : decode cX10_ofCell 18 = .ok (.iconst 1, 1) := by decide +kernel
theorem dX10_ofCell_19 : decode cX10_ofCell 19 = .ok (.invokevirtual 62, 3) := by decide +kernel
theorem dX10_ofCell_22 : decode cX10_ofCell 22 = .ok (.ireturn, 1) := by decide +kernel
theorem dX10_ofCell_23 : decode cX10_ofCell 23 = .ok (.iload_n 2, 1) := by decide +kernel
theorem dX10_ofCell_24 : decode cX10_ofCell 24 = .ok (.tableswitch 66 0 2 #[28, 41, 54], 28) := by decide +kernel
theorem dX10_ofCell_52 : decode cX10_ofCell 52 = .ok (.aload_n 0, 1) := by decide +kernel
theorem dX10_ofCell_53 : decode cX10_ofCell 53 = .ok (.getfield 10, 3) := by decide +kernel
theorem dX10_ofCell_56 : decode cX10_ofCell 56 = .ok (.getfield 66, 3) := by decide +kernel
theorem dX10_ofCell_59 : decode cX10_ofCell 59 = .ok (.getfield 70, 3) := by decide +kernel
theorem dX10_ofCell_62 : decode cX10_ofCell 62 = .ok (.iload_n 1, 1) := by decide +kernel
theorem dX10_ofCell_63 : decode cX10_ofCell 63 = .ok (.iaload, 1) := by decide +kernel
theorem dX10_ofCell_64 : decode cX10_ofCell 64 = .ok (.ireturn, 1) := by decide +kernel
theorem dX10_ofCell_65 : decode cX10_ofCell 65 = .ok (.aload_n 0, 1) := by decide +kernel
theorem dX10_ofCell_66 : decode cX10_ofCell 66 = .ok (.getfield 10, 3) := by decide +kernel
theorem dX10_ofCell_69 : decode cX10_ofCell 69 = .ok (.getfield 66, 3) := by decide +kernel
theorem dX10_ofCell_72 : decode cX10_ofCell 72 = .ok (.getfield 73, 3) := by decide +kernel
theorem dX10_ofCell_75 : decode cX10_ofCell 75 = .ok (.iload_n 1, 1) := by decide +kernel
theorem dX10_ofCell_76 : decode cX10_ofCell 76 = .ok (.iaload, 1) := by decide +kernel
theorem dX10_ofCell_77 : decode cX10_ofCell 77 = .ok (.ireturn, 1) := by decide +kernel
theorem dX10_ofCell_78 : decode cX10_ofCell 78 = .ok (.aload_n 0, 1) := by decide +kernel
theorem dX10_ofCell_79 : decode cX10_ofCell 79 = .ok (.getfield 10, 3) := by decide +kernel
theorem dX10_ofCell_82 : decode cX10_ofCell 82 = .ok (.getfield 66, 3) := by decide +kernel
theorem dX10_ofCell_85 : decode cX10_ofCell 85 = .ok (.iload_n 1, 1) := by decide +kernel
theorem dX10_ofCell_86 : decode cX10_ofCell 86 = .ok (.invokevirtual 80, 3) := by decide +kernel
theorem dX10_ofCell_89 : decode cX10_ofCell 89 = .ok (.ireturn, 1) := by decide +kernel
theorem dX10_ofCell_90 : decode cX10_ofCell 90 = .ok (.aload_n 0, 1) := by decide +kernel
theorem dX10_ofCell_91 : decode cX10_ofCell 91 = .ok (.getfield 10, 3) := by decide +kernel
theorem dX10_ofCell_94 : decode cX10_ofCell 94 = .ok (.getfield 66, 3) := by decide +kernel
theorem dX10_ofCell_97 : decode cX10_ofCell 97 = .ok (.iload_n 1, 1) := by decide +kernel
theorem dX10_ofCell_98 : decode cX10_ofCell 98 = .ok (.aload_n 0, 1) := by decide +kernel
theorem dX10_ofCell_99 : decode cX10_ofCell 99 = .ok (.getfield 10, 3) := by decide +kernel
theorem dX10_ofCell_102 : decode cX10_ofCell 102 = .ok (.getfield 83, 3) := by decide +kernel
theorem dX10_ofCell_105 : decode cX10_ofCell 105 = .ok (.invokevirtual 87, 3) := by decide +kernel
theorem dX10_ofCell_108 : decode cX10_ofCell 108 = .ok (.ireturn, 1) := by decide +kernel
theorem dX10_list_0 : decode cX10_list 0 = .ok (.iload_n 1, 1) := by decide +kernel
theorem dX10_list_1 : decode cX10_list 1 = .ok (.iconst 5, 1) := by decide +kernel
theorem dX10_list_2 : decode cX10_list 2 = .ok (.invokestatic 58, 3) := by decide +kernel
theorem dX10_list_5 : decode cX10_list 5 = .ok (.ifCond .ne 11, 3) := by decide +kernel
theorem dX10_list_8 : decode cX10_list 8 = .ok (.iload_n 2, 1) := by decide +kernel
theorem dX10_list_9 : decode cX10_list 9 = .ok (.iconst 4, 1) := by decide +kernel
theorem dX10_list_10 : decode cX10_list 10 = .ok (.invokestatic 58, 3) := by decide +kernel
theorem dX10_list_13 : decode cX10_list 13 = .ok (.ifCond .eq 9, 3) := by decide +kernel
theorem dX10_list_16 : decode cX10_list 16 = .ok (.aload_n 0, 1) := by decide +kernel
theorem dX10_list_17 : decode cX10_list 17 = .ok (.iconst 1, 1) := by decide +kernel
theorem dX10_list_18 : decode cX10_list 18 = .ok (.invokevirtual 62, 3) := by decide +kernel
theorem dX10_list_21 : decode cX10_list 21 = .ok (.ireturn, 1) := by decide +kernel
theorem dX10_list_22 : decode cX10_list 22 = .ok (.aload_n 0, 1) := by decide +kernel
theorem dX10_list_23 : decode cX10_list 23 = .ok (.getfield 10, 3) := by decide +kernel
theorem dX10_list_26 : decode cX10_list 26 = .ok (.getfield 66, 3) := by decide +kernel
theorem dX10_list_29 : decode cX10_list 29 = .ok (.getfield 91, 3) := by decide +kernel
theorem dX10_list_32 : decode cX10_list 32 = .ok (.iload_n 1, 1) := by decide +kernel
theorem dX10_list_33 : decode cX10_list 33 = .ok (.iload_n 2, 1) := by decide +kernel
theorem dX10_list_34 : decode cX10_list 34 = .ok (.invokestatic 76, 3) := by decide +kernel
theorem dX10_list_37 : decode cX10_list 37 = .ok (.ireturn, 1) := by decide +kernel
theorem dX10_ofList_0 : decode cX10_ofList 0 = .ok (.iload_n 1, 1) := by decide +kernel
theorem dX10_ofList_1 : decode cX10_ofList 1 = .ok (.iconst 5, 1) := by decide +kernel
theorem dX10_ofList_2 : decode cX10_ofList 2 = .ok (.invokestatic 58, 3) := by decide +kernel
theorem dX10_ofList_5 : decode cX10_ofList 5 = .ok (.ifCond .eq 9, 3) := by decide +kernel
theorem dX10_ofList_8 : decode cX10_ofList 8 = .ok (.aload_n 0, 1) := by decide +kernel
theorem dX10_ofList_9 : decode cX10_ofList 9 = .ok (.iconst 1, 1) := by decide +kernel
theorem dX10_ofList_10 : decode cX10_ofList 10 = .ok (.invokevirtual 62, 3) := by decide +kernel
theorem dX10_ofList_13 : decode cX10_ofList 13 = .ok (.ireturn, 1) := by decide +kernel
theorem dX10_ofList_14 : decode cX10_ofList 14 = .ok (.aload_n 0, 1) := by decide +kernel
theorem dX10_ofList_15 : decode cX10_ofList 15 = .ok (.getfield 10, 3) := by decide +kernel
theorem dX10_ofList_18 : decode cX10_ofList 18 = .ok (.getfield 66, 3) := by decide +kernel
theorem dX10_ofList_21 : decode cX10_ofList 21 = .ok (.getfield 91, 3) := by decide +kernel
theorem dX10_ofList_24 : decode cX10_ofList 24 = .ok (.iload_n 1, 1) := by decide +kernel
theorem dX10_ofList_25 : decode cX10_ofList 25 = .ok (.iaload, 1) := by decide +kernel
theorem dX10_ofList_26 : decode cX10_ofList 26 = .ok (.ireturn, 1) := by decide +kernel
theorem dX10_dark_0 : decode cX10_dark 0 = .ok (.iload_n 1, 1) := by decide +kernel
theorem dX10_dark_1 : decode cX10_dark 1 = .ok (.iconst 1, 1) := by decide +kernel
theorem dX10_dark_2 : decode cX10_dark 2 = .ok (.if_icmp .lt 9, 3) := by decide +kernel
theorem dX10_dark_5 : decode cX10_dark 5 = .ok (.iload_n 1, 1) := by decide +kernel
theorem dX10_dark_6 : decode cX10_dark 6 = .ok (.bipush 20, 2) := by decide +kernel
theorem dX10_dark_8 : decode cX10_dark 8 = .ok (.if_icmp .le 9, 3) := by decide +kernel
theorem dX10_dark_11 : decode cX10_dark 11 = .ok (.aload_n 0, 1) := by decide +kernel
theorem dX10_dark_12 : decode cX10_dark 12 = .ok (.iconst 1, 1) := by decide +kernel
theorem dX10_dark_13 : decode cX10_dark 13 = .ok (.invokevirtual 62, 3) := by decide +kernel
theorem dX10_dark_16 : decode cX10_dark 16 = .ok (.ireturn, 1) := by decide +kernel
theorem dX10_dark_17 : decode cX10_dark 17 = .ok (.aload_n 0, 1) := by decide +kernel
theorem dX10_dark_18 : decode cX10_dark 18 = .ok (.getfield 10, 3) := by decide +kernel
theorem dX10_dark_21 : decode cX10_dark 21 = .ok (.getfield 66, 3) := by decide +kernel
theorem dX10_dark_24 : decode cX10_dark 24 = .ok (.getfield 94, 3) := by decide +kernel
theorem dX10_dark_27 : decode cX10_dark 27 = .ok (.istore_n 2, 1) := by decide +kernel
theorem dX10_dark_28 : decode cX10_dark 28 = .ok (.aload_n 0, 1) := by decide +kernel
theorem dX10_dark_29 : decode cX10_dark 29 = .ok (.getfield 10, 3) := by decide +kernel
theorem dX10_dark_32 : decode cX10_dark 32 = .ok (.getfield 66, 3) := by decide +kernel
theorem dX10_dark_35 : decode cX10_dark 35 = .ok (.iload_n 1, 1) := by decide +kernel
theorem dX10_dark_36 : decode cX10_dark 36 = .ok (.putfield 94, 3) := by decide +kernel
theorem dX10_dark_39 : decode cX10_dark 39 = .ok (.iload_n 2, 1) := by decide +kernel
theorem dX10_dark_40 : decode cX10_dark 40 = .ok (.ireturn, 1) := by decide +kernel
theorem dX10_wants_0 : decode cX10_wants 0 = .ok (.iload_n 1, 1) := by decide +kernel
theorem dX10_wants_1 : decode cX10_wants 1 = .ok (.iconst 5, 1) := by decide +kernel
theorem dX10_wants_2 : decode cX10_wants 2 = .ok (.invokestatic 58, 3) := by decide +kernel
theorem dX10_wants_5 : decode cX10_wants 5 = .ok (.ifCond .ne 12, 3) := by decide +kernel
theorem dX10_wants_8 : decode cX10_wants 8 = .ok (.iload_n 2, 1) := by decide +kernel
theorem dX10_wants_9 : decode cX10_wants 9 = .ok (.bipush 99, 2) := by decide +kernel
theorem dX10_wants_11 : decode cX10_wants 11 = .ok (.invokestatic 58, 3) := by decide +kernel
theorem dX10_wants_14 : decode cX10_wants 14 = .ok (.ifCond .eq 9, 3) := by decide +kernel
theorem dX10_wants_17 : decode cX10_wants 17 = .ok (.aload_n 0, 1) := by decide +kernel
theorem dX10_wants_18 : decode cX10_wants 18 = .ok (.iconst 1, 1) := by decide +kernel
theorem dX10_wants_19 : decode cX10_wants 19 = .ok (.invokevirtual 62, 3) := by decide +kernel
theorem dX10_wants_22 : decode cX10_wants 22 = .ok (.ireturn, 1) := by decide +kernel
theorem dX10_wants_23 : decode cX10_wants 23 = .ok (.aload_n 0, 1) := by decide +kernel
theorem dX10_wants_24 : decode cX10_wants 24 = .ok (.getfield 10, 3) := by decide +kernel
theorem dX10_wants_27 : decode cX10_wants 27 = .ok (.getfield 98, 3) := by decide +kernel
theorem dX10_wants_30 : decode cX10_wants 30 = .ok (.iload_n 1, 1) := by decide +kernel
theorem dX10_wants_31 : decode cX10_wants 31 = .ok (.iload_n 2, 1) := by decide +kernel
theorem dX10_wants_32 : decode cX10_wants 32 = .ok (.invokestatic 76, 3) := by decide +kernel
theorem dX10_wants_35 : decode cX10_wants 35 = .ok (.ireturn, 1) := by decide +kernel
theorem dX10_ofWearer_0 : decode cX10_ofWearer 0 = .ok (.iload_n 1, 1) := by decide +kernel
theorem dX10_ofWearer_1 : decode cX10_ofWearer 1 = .ok (.iconst 5, 1) := by decide +kernel
theorem dX10_ofWearer_2 : decode cX10_ofWearer 2 = .ok (.invokestatic 58, 3) := by decide +kernel
theorem dX10_ofWearer_5 : decode cX10_ofWearer 5 = .ok (.ifCond .eq 9, 3) := by decide +kernel
theorem dX10_ofWearer_8 : decode cX10_ofWearer 8 = .ok (.aload_n 0, 1) := by decide +kernel
theorem dX10_ofWearer_9 : decode cX10_ofWearer 9 = .ok (.iconst 1, 1) := by decide +kernel
theorem dX10_ofWearer_10 : decode cX10_ofWearer 10 = .ok (.invokevirtual 62, 3) := by decide +kernel
theorem dX10_ofWearer_13 : decode cX10_ofWearer 13 = .ok (.ireturn, 1) := by decide +kernel
theorem dX10_ofWearer_14 : decode cX10_ofWearer 14 = .ok (.aload_n 0, 1) := by decide +kernel
theorem dX10_ofWearer_15 : decode cX10_ofWearer 15 = .ok (.getfield 10, 3) := by decide +kernel
theorem dX10_ofWearer_18 : decode cX10_ofWearer 18 = .ok (.getfield 98, 3) := by decide +kernel
theorem dX10_ofWearer_21 : decode cX10_ofWearer 21 = .ok (.iload_n 1, 1) := by decide +kernel
theorem dX10_ofWearer_22 : decode cX10_ofWearer 22 = .ok (.iaload, 1) := by decide +kernel
theorem dX10_ofWearer_23 : decode cX10_ofWearer 23 = .ok (.ireturn, 1) := by decide +kernel
theorem dX10_boat_0 : decode cX10_boat 0 = .ok (.iload_n 1, 1) := by decide +kernel
theorem dX10_boat_1 : decode cX10_boat 1 = .ok (.invokestatic 101, 3) := by decide +kernel
theorem dX10_boat_4 : decode cX10_boat 4 = .ok (.ifCond .ne 12, 3) := by decide +kernel
theorem dX10_boat_7 : decode cX10_boat 7 = .ok (.iload_n 2, 1) := by decide +kernel
theorem dX10_boat_8 : decode cX10_boat 8 = .ok (.bipush 15, 2) := by decide +kernel
theorem dX10_boat_10 : decode cX10_boat 10 = .ok (.invokestatic 58, 3) := by decide +kernel
theorem dX10_boat_13 : decode cX10_boat 13 = .ok (.ifCond .eq 9, 3) := by decide +kernel
theorem dX10_boat_16 : decode cX10_boat 16 = .ok (.aload_n 0, 1) := by decide +kernel
theorem dX10_boat_17 : decode cX10_boat 17 = .ok (.iconst 1, 1) := by decide +kernel
theorem dX10_boat_18 : decode cX10_boat 18 = .ok (.invokevirtual 62, 3) := by decide +kernel
theorem dX10_boat_21 : decode cX10_boat 21 = .ok (.ireturn, 1) := by decide +kernel
theorem dX10_boat_22 : decode cX10_boat 22 = .ok (.aload_n 0, 1) := by decide +kernel
theorem dX10_boat_23 : decode cX10_boat 23 = .ok (.getfield 10, 3) := by decide +kernel
theorem dX10_boat_26 : decode cX10_boat 26 = .ok (.getfield 66, 3) := by decide +kernel
theorem dX10_boat_29 : decode cX10_boat 29 = .ok (.getfield 105, 3) := by decide +kernel
theorem dX10_boat_32 : decode cX10_boat 32 = .ok (.bipush 8, 2) := by decide +kernel
theorem dX10_boat_34 : decode cX10_boat 34 = .ok (.if_icmp .lt 9, 3) := by decide +kernel
theorem dX10_boat_37 : decode cX10_boat 37 = .ok (.aload_n 0, 1) := by decide +kernel
theorem dX10_boat_38 : decode cX10_boat 38 = .ok (.iconst 4, 1) := by decide +kernel
theorem dX10_boat_39 : decode cX10_boat 39 = .ok (.invokevirtual 62, 3) := by decide +kernel
theorem dX10_boat_42 : decode cX10_boat 42 = .ok (.ireturn, 1) := by decide +kernel
theorem dX10_boat_43 : decode cX10_boat 43 = .ok (.aload_n 0, 1) := by decide +kernel
theorem dX10_boat_44 : decode cX10_boat 44 = .ok (.getfield 10, 3) := by decide +kernel
theorem dX10_boat_47 : decode cX10_boat 47 = .ok (.getfield 66, 3) := by decide +kernel
theorem dX10_boat_50 : decode cX10_boat 50 = .ok (.iload_n 1, 1) := by decide +kernel
theorem dX10_boat_51 : decode cX10_boat 51 = .ok (.iload_n 2, 1) := by decide +kernel
theorem dX10_boat_52 : decode cX10_boat 52 = .ok (.invokevirtual 108, 3) := by decide +kernel
theorem dX10_boat_55 : decode cX10_boat 55 = .ok (.ireturn, 1) := by decide +kernel
theorem dX10_ofBoat_0 : decode cX10_ofBoat 0 = .ok (.aload_n 0, 1) := by decide +kernel
theorem dX10_ofBoat_1 : decode cX10_ofBoat 1 = .ok (.iload_n 1, 1) := by decide +kernel
theorem dX10_ofBoat_2 : decode cX10_ofBoat 2 = .ok (.invokevirtual 112, 3) := by decide +kernel
theorem dX10_ofBoat_5 : decode cX10_ofBoat 5 = .ok (.ifCond .ne 12, 3) := by decide +kernel
theorem dX10_ofBoat_8 : decode cX10_ofBoat 8 = .ok (.iload_n 2, 1) := by decide +kernel
theorem dX10_ofBoat_9 : decode cX10_ofBoat 9 = .ok (.bipush 7, 2) := by decide +kernel
theorem dX10_ofBoat_11 : decode cX10_ofBoat 11 = .ok (.invokestatic 58, 3) := by decide +kernel
theorem dX10_ofBoat_14 : decode cX10_ofBoat 14 = .ok (.ifCond .eq 9, 3) := by decide +kernel
theorem dX10_ofBoat_17 : decode cX10_ofBoat 17 = .ok (.aload_n 0, 1) := by decide +kernel
theorem dX10_ofBoat_18 : decode cX10_ofBoat 18 = .ok (.iconst 1, 1) := by decide +kernel
theorem dX10_ofBoat_19 : decode cX10_ofBoat 19 = .ok (.invokevirtual 62, 3) := by decide +kernel
theorem dX10_ofBoat_22 : decode cX10_ofBoat 22 = .ok (.ireturn, 1) := by decide +kernel
theorem dX10_ofBoat_23 : decode cX10_ofBoat 23 = .ok (.aload_n 0, 1) := by decide +kernel
theorem dX10_ofBoat_24 : decode cX10_ofBoat 24 = .ok (.getfield 10, 3) := by decide +kernel
theorem dX10_ofBoat_27 : decode cX10_ofBoat 27 = .ok (.getfield 66, 3) := by decide +kernel
theorem dX10_ofBoat_30 : decode cX10_ofBoat 30 = .ok (.astore_n 3, 1) := by decide +kernel
theorem dX10_ofBoat_31 : decode cX10_ofBoat 31 = .ok (.iload_n 2, 1) := by decide +kernel
theorem dX10_ofBoat_32 : decode cX10_ofBoat 32 = .ok (.tableswitch 90 0 6 #[44, 51, 58, 65, 72, 78, 84], 44) := by decide +kernel
theorem dX10_ofBoat_76 : decode cX10_ofBoat 76 = .ok (.aload_n 3, 1) := by decide +kernel
theorem dX10_ofBoat_77 : decode cX10_ofBoat 77 = .ok (.getfield 115, 3) := by decide +kernel
theorem dX10_ofBoat_80 : decode cX10_ofBoat 80 = .ok (.iload_n 1, 1) := by decide +kernel
theorem dX10_ofBoat_81 : decode cX10_ofBoat 81 = .ok (.iaload, 1) := by decide +kernel
theorem dX10_ofBoat_82 : decode cX10_ofBoat 82 = .ok (.ireturn, 1) := by decide +kernel
theorem dX10_ofBoat_83 : decode cX10_ofBoat 83 = .ok (.aload_n 3, 1) := by decide +kernel
theorem dX10_ofBoat_84 : decode cX10_ofBoat 84 = .ok (.getfield 118, 3) := by decide +kernel
theorem dX10_ofBoat_87 : decode cX10_ofBoat 87 = .ok (.iload_n 1, 1) := by decide +kernel
theorem dX10_ofBoat_88 : decode cX10_ofBoat 88 = .ok (.iaload, 1) := by decide +kernel
theorem dX10_ofBoat_89 : decode cX10_ofBoat 89 = .ok (.ireturn, 1) := by decide +kernel
theorem dX10_ofBoat_90 : decode cX10_ofBoat 90 = .ok (.aload_n 3, 1) := by decide +kernel
theorem dX10_ofBoat_91 : decode cX10_ofBoat 91 = .ok (.getfield 121, 3) := by decide +kernel
theorem dX10_ofBoat_94 : decode cX10_ofBoat 94 = .ok (.iload_n 1, 1) := by decide +kernel
theorem dX10_ofBoat_95 : decode cX10_ofBoat 95 = .ok (.iaload, 1) := by decide +kernel
theorem dX10_ofBoat_96 : decode cX10_ofBoat 96 = .ok (.ireturn, 1) := by decide +kernel
theorem dX10_ofBoat_97 : decode cX10_ofBoat 97 = .ok (.aload_n 3, 1) := by decide +kernel
theorem dX10_ofBoat_98 : decode cX10_ofBoat 98 = .ok (.getfield 124, 3) := by decide +kernel
theorem dX10_ofBoat_101 : decode cX10_ofBoat 101 = .ok (.iload_n 1, 1) := by decide +kernel
theorem dX10_ofBoat_102 : decode cX10_ofBoat 102 = .ok (.iaload, 1) := by decide +kernel
theorem dX10_ofBoat_103 : decode cX10_ofBoat 103 = .ok (.ireturn, 1) := by decide +kernel
theorem dX10_ofBoat_104 : decode cX10_ofBoat 104 = .ok (.aload_n 3, 1) := by decide +kernel
theorem dX10_ofBoat_105 : decode cX10_ofBoat 105 = .ok (.iload_n 1, 1) := by decide +kernel
theorem dX10_ofBoat_106 : decode cX10_ofBoat 106 = .ok (.invokevirtual 127, 3) := by decide +kernel
theorem dX10_ofBoat_109 : decode cX10_ofBoat 109 = .ok (.ireturn, 1) := by decide +kernel
theorem dX10_ofBoat_110 : decode cX10_ofBoat 110 = .ok (.aload_n 3, 1) := by decide +kernel
theorem dX10_ofBoat_111 : decode cX10_ofBoat 111 = .ok (.iload_n 1, 1) := by decide +kernel
theorem dX10_ofBoat_112 : decode cX10_ofBoat 112 = .ok (.invokevirtual 130, 3) := by decide +kernel
theorem dX10_ofBoat_115 : decode cX10_ofBoat 115 = .ok (.ireturn, 1) := by decide +kernel
theorem dX10_ofBoat_116 : decode cX10_ofBoat 116 = .ok (.aload_n 3, 1) := by decide +kernel
theorem dX10_ofBoat_117 : decode cX10_ofBoat 117 = .ok (.iload_n 1, 1) := by decide +kernel
theorem dX10_ofBoat_118 : decode cX10_ofBoat 118 = .ok (.invokevirtual 133, 3) := by decide +kernel
theorem dX10_ofBoat_121 : decode cX10_ofBoat 121 = .ok (.ireturn, 1) := by decide +kernel
theorem dX10_ofBoat_122 : decode cX10_ofBoat 122 = .ok (.aload_n 3, 1) := by decide +kernel
theorem dX10_ofBoat_123 : decode cX10_ofBoat 123 = .ok (.iload_n 1, 1) := by decide +kernel
theorem dX10_ofBoat_124 : decode cX10_ofBoat 124 = .ok (.aload_n 0, 1) := by decide +kernel
theorem dX10_ofBoat_125 : decode cX10_ofBoat 125 = .ok (.getfield 10, 3) := by decide +kernel
theorem dX10_ofBoat_128 : decode cX10_ofBoat 128 = .ok (.getfield 83, 3) := by decide +kernel
theorem dX10_ofBoat_131 : decode cX10_ofBoat 131 = .ok (.invokevirtual 136, 3) := by decide +kernel
theorem dX10_ofBoat_134 : decode cX10_ofBoat 134 = .ok (.ireturn, 1) := by decide +kernel
theorem dX10_change_0 : decode cX10_change 0 = .ok (.aload_n 0, 1) := by decide +kernel
theorem dX10_change_1 : decode cX10_change 1 = .ok (.iload_n 1, 1) := by decide +kernel
theorem dX10_change_2 : decode cX10_change 2 = .ok (.invokevirtual 112, 3) := by decide +kernel
theorem dX10_change_5 : decode cX10_change 5 = .ok (.ifCond .ne 29, 3) := by decide +kernel
theorem dX10_change_8 : decode cX10_change 8 = .ok (.iload_n 2, 1) := by decide +kernel
theorem dX10_change_9 : decode cX10_change 9 = .ok (.iconst 1, 1) := by decide +kernel
theorem dX10_change_10 : decode cX10_change 10 = .ok (.invokestatic 58, 3) := by decide +kernel
theorem dX10_change_13 : decode cX10_change 13 = .ok (.ifCond .ne 21, 3) := by decide +kernel
theorem dX10_change_16 : decode cX10_change 16 = .ok (.iload_n 3, 1) := by decide +kernel
theorem dX10_change_17 : decode cX10_change 17 = .ok (.iload_n 2, 1) := by decide +kernel
theorem dX10_change_18 : decode cX10_change 18 = .ok (.ifCond .ne 8, 3) := by decide +kernel
theorem dX10_change_21 : decode cX10_change 21 = .ok (.bipush 15, 2) := by decide +kernel
theorem dX10_change_23 : decode cX10_change 23 = .ok (.goto 5, 3) := by decide +kernel
theorem dX10_change_26 : decode cX10_change 26 = .ok (.bipush 99, 2) := by decide +kernel
theorem dX10_change_28 : decode cX10_change 28 = .ok (.invokestatic 58, 3) := by decide +kernel
theorem dX10_change_31 : decode cX10_change 31 = .ok (.ifCond .eq 9, 3) := by decide +kernel
theorem dX10_change_34 : decode cX10_change 34 = .ok (.aload_n 0, 1) := by decide +kernel
theorem dX10_change_35 : decode cX10_change 35 = .ok (.iconst 1, 1) := by decide +kernel
theorem dX10_change_36 : decode cX10_change 36 = .ok (.invokevirtual 62, 3) := by decide +kernel
theorem dX10_change_39 : decode cX10_change 39 = .ok (.ireturn, 1) := by decide +kernel
theorem dX10_change_40 : decode cX10_change 40 = .ok (.iload_n 2, 1) := by decide +kernel
theorem dX10_change_41 : decode cX10_change 41 = .ok (.ifCond .ne 16, 3) := by decide +kernel
theorem dX10_change_44 : decode cX10_change 44 = .ok (.aload_n 0, 1) := by decide +kernel
theorem dX10_change_45 : decode cX10_change 45 = .ok (.getfield 10, 3) := by decide +kernel
theorem dX10_change_48 : decode cX10_change 48 = .ok (.getfield 66, 3) := by decide +kernel
theorem dX10_change_51 : decode cX10_change 51 = .ok (.getfield 121, 3) := by decide +kernel
theorem dX10_change_54 : decode cX10_change 54 = .ok (.goto 13, 3) := by decide +kernel
theorem dX10_change_57 : decode cX10_change 57 = .ok (.aload_n 0, 1) := by decide +kernel
theorem dX10_change_58 : decode cX10_change 58 = .ok (.getfield 10, 3) := by decide +kernel
theorem dX10_change_61 : decode cX10_change 61 = .ok (.getfield 66, 3) := by decide +kernel
theorem dX10_change_64 : decode cX10_change 64 = .ok (.getfield 124, 3) := by decide +kernel
theorem dX10_change_67 : decode cX10_change 67 = .ok (.iload_n 1, 1) := by decide +kernel
theorem dX10_change_68 : decode cX10_change 68 = .ok (.iload_n 3, 1) := by decide +kernel
theorem dX10_change_69 : decode cX10_change 69 = .ok (.invokestatic 76, 3) := by decide +kernel
theorem dX10_change_72 : decode cX10_change 72 = .ok (.ireturn, 1) := by decide +kernel
theorem dX10_become_0 : decode cX10_become 0 = .ok (.aload_n 0, 1) := by decide +kernel
theorem dX10_become_1 : decode cX10_become 1 = .ok (.iload_n 1, 1) := by decide +kernel
theorem dX10_become_2 : decode cX10_become 2 = .ok (.invokevirtual 112, 3) := by decide +kernel
theorem dX10_become_5 : decode cX10_become 5 = .ok (.ifCond .ne 10, 3) := by decide +kernel
theorem dX10_become_8 : decode cX10_become 8 = .ok (.iload_n 2, 1) := by decide +kernel
theorem dX10_become_9 : decode cX10_become 9 = .ok (.invokestatic 101, 3) := by decide +kernel
theorem dX10_become_12 : decode cX10_become 12 = .ok (.ifCond .eq 9, 3) := by decide +kernel
theorem dX10_become_15 : decode cX10_become 15 = .ok (.aload_n 0, 1) := by decide +kernel
theorem dX10_become_16 : decode cX10_become 16 = .ok (.iconst 1, 1) := by decide +kernel
theorem dX10_become_17 : decode cX10_become 17 = .ok (.invokevirtual 62, 3) := by decide +kernel
theorem dX10_become_20 : decode cX10_become 20 = .ok (.ireturn, 1) := by decide +kernel
theorem dX10_become_21 : decode cX10_become 21 = .ok (.aload_n 0, 1) := by decide +kernel
theorem dX10_become_22 : decode cX10_become 22 = .ok (.getfield 10, 3) := by decide +kernel
theorem dX10_become_25 : decode cX10_become 25 = .ok (.getfield 66, 3) := by decide +kernel
theorem dX10_become_28 : decode cX10_become 28 = .ok (.getfield 118, 3) := by decide +kernel
theorem dX10_become_31 : decode cX10_become 31 = .ok (.iload_n 1, 1) := by decide +kernel
theorem dX10_become_32 : decode cX10_become 32 = .ok (.iload_n 2, 1) := by decide +kernel
theorem dX10_become_33 : decode cX10_become 33 = .ok (.bipush 10, 2) := by decide +kernel
theorem dX10_become_35 : decode cX10_become 35 = .ok (.irem, 1) := by decide +kernel
theorem dX10_become_36 : decode cX10_become 36 = .ok (.iastore, 1) := by decide +kernel
theorem dX10_become_37 : decode cX10_become 37 = .ok (.aload_n 0, 1) := by decide +kernel
theorem dX10_become_38 : decode cX10_become 38 = .ok (.getfield 10, 3) := by decide +kernel
theorem dX10_become_41 : decode cX10_become 41 = .ok (.getfield 66, 3) := by decide +kernel
theorem dX10_become_44 : decode cX10_become 44 = .ok (.getfield 115, 3) := by decide +kernel
theorem dX10_become_47 : decode cX10_become 47 = .ok (.iload_n 1, 1) := by decide +kernel
theorem dX10_become_48 : decode cX10_become 48 = .ok (.iload_n 2, 1) := by decide +kernel
theorem dX10_become_49 : decode cX10_become 49 = .ok (.bipush 10, 2) := by decide +kernel
theorem dX10_become_51 : decode cX10_become 51 = .ok (.idiv, 1) := by decide +kernel
theorem dX10_become_52 : decode cX10_become 52 = .ok (.invokestatic 76, 3) := by decide +kernel
theorem dX10_become_55 : decode cX10_become 55 = .ok (.ireturn, 1) := by decide +kernel
theorem dX10_as_0 : decode cX10_as 0 = .ok (.aload_n 0, 1) := by decide +kernel
theorem dX10_as_1 : decode cX10_as 1 = .ok (.iload_n 1, 1) := by decide +kernel
theorem dX10_as_2 : decode cX10_as 2 = .ok (.invokevirtual 112, 3) := by decide +kernel
theorem dX10_as_5 : decode cX10_as 5 = .ok (.ifCond .ne 12, 3) := by decide +kernel
theorem dX10_as_8 : decode cX10_as 8 = .ok (.iload_n 2, 1) := by decide +kernel
theorem dX10_as_9 : decode cX10_as 9 = .ok (.bipush 6, 2) := by decide +kernel
theorem dX10_as_11 : decode cX10_as 11 = .ok (.invokestatic 58, 3) := by decide +kernel
theorem dX10_as_14 : decode cX10_as 14 = .ok (.ifCond .eq 9, 3) := by decide +kernel
theorem dX10_as_17 : decode cX10_as 17 = .ok (.aload_n 0, 1) := by decide +kernel
theorem dX10_as_18 : decode cX10_as 18 = .ok (.iconst 1, 1) := by decide +kernel
theorem dX10_as_19 : decode cX10_as 19 = .ok (.invokevirtual 62, 3) := by decide +kernel
theorem dX10_as_22 : decode cX10_as 22 = .ok (.ireturn, 1) := by decide +kernel
theorem dX10_as_23 : decode cX10_as 23 = .ok (.aload_n 0, 1) := by decide +kernel
theorem dX10_as_24 : decode cX10_as 24 = .ok (.getfield 10, 3) := by decide +kernel
theorem dX10_as_27 : decode cX10_as 27 = .ok (.getfield 66, 3) := by decide +kernel
theorem dX10_as_30 : decode cX10_as 30 = .ok (.getfield 115, 3) := by decide +kernel
theorem dX10_as_33 : decode cX10_as 33 = .ok (.iload_n 1, 1) := by decide +kernel
theorem dX10_as_34 : decode cX10_as 34 = .ok (.iaload, 1) := by decide +kernel
theorem dX10_as_35 : decode cX10_as 35 = .ok (.iload_n 2, 1) := by decide +kernel
theorem dX10_as_36 : decode cX10_as 36 = .ok (.invokestatic 139, 3) := by decide +kernel
theorem dX10_as_39 : decode cX10_as 39 = .ok (.ifCond .ne 9, 3) := by decide +kernel
theorem dX10_as_42 : decode cX10_as 42 = .ok (.aload_n 0, 1) := by decide +kernel
theorem dX10_as_43 : decode cX10_as 43 = .ok (.iconst 5, 1) := by decide +kernel
theorem dX10_as_44 : decode cX10_as 44 = .ok (.invokevirtual 62, 3) := by decide +kernel
theorem dX10_as_47 : decode cX10_as 47 = .ok (.ireturn, 1) := by decide +kernel
theorem dX10_as_48 : decode cX10_as 48 = .ok (.aload_n 0, 1) := by decide +kernel
theorem dX10_as_49 : decode cX10_as 49 = .ok (.getfield 10, 3) := by decide +kernel
theorem dX10_as_52 : decode cX10_as 52 = .ok (.getfield 66, 3) := by decide +kernel
theorem dX10_as_55 : decode cX10_as 55 = .ok (.getfield 118, 3) := by decide +kernel
theorem dX10_as_58 : decode cX10_as 58 = .ok (.iload_n 1, 1) := by decide +kernel
theorem dX10_as_59 : decode cX10_as 59 = .ok (.iaload, 1) := by decide +kernel
theorem dX10_as_60 : decode cX10_as 60 = .ok (.ireturn, 1) := by decide +kernel
theorem dX10_feed_0 : decode cX10_feed 0 = .ok (.iload_n 3, 1) := by decide +kernel
theorem dX10_feed_1 : decode cX10_feed 1 = .ok (.iconst 1, 1) := by decide +kernel
theorem dX10_feed_2 : decode cX10_feed 2 = .ok (.if_icmp .lt 9, 3) := by decide +kernel
theorem dX10_feed_5 : decode cX10_feed 5 = .ok (.iload_n 3, 1) := by decide +kernel
theorem dX10_feed_6 : decode cX10_feed 6 = .ok (.bipush 8, 2) := by decide +kernel
theorem dX10_feed_8 : decode cX10_feed 8 = .ok (.if_icmp .le 9, 3) := by decide +kernel
theorem dX10_feed_11 : decode cX10_feed 11 = .ok (.aload_n 0, 1) := by decide +kernel
theorem dX10_feed_12 : decode cX10_feed 12 = .ok (.iconst 1, 1) := by decide +kernel
theorem dX10_feed_13 : decode cX10_feed 13 = .ok (.invokevirtual 62, 3) := by decide +kernel
theorem dX10_feed_16 : decode cX10_feed 16 = .ok (.ireturn, 1) := by decide +kernel
theorem dX10_feed_17 : decode cX10_feed 17 = .ok (.aload_n 0, 1) := by decide +kernel
theorem dX10_feed_18 : decode cX10_feed 18 = .ok (.getfield 10, 3) := by decide +kernel
theorem dX10_feed_21 : decode cX10_feed 21 = .ok (.getfield 144, 3) := by decide +kernel
theorem dX10_feed_24 : decode cX10_feed 24 = .ok (.getfield 148, 3) := by decide +kernel
theorem dX10_feed_27 : decode cX10_feed 27 = .ok (.iload_n 3, 1) := by decide +kernel
theorem dX10_feed_28 : decode cX10_feed 28 = .ok (.iadd, 1) := by decide +kernel
theorem dX10_feed_29 : decode cX10_feed 29 = .ok (.bipush 50, 2) := by decide +kernel
theorem dX10_feed_31 : decode cX10_feed 31 = .ok (.if_icmp .le 9, 3) := by decide +kernel
theorem dX10_feed_34 : decode cX10_feed 34 = .ok (.aload_n 0, 1) := by decide +kernel
theorem dX10_feed_35 : decode cX10_feed 35 = .ok (.iconst 4, 1) := by decide +kernel
theorem dX10_feed_36 : decode cX10_feed 36 = .ok (.invokevirtual 62, 3) := by decide +kernel
theorem dX10_feed_39 : decode cX10_feed 39 = .ok (.ireturn, 1) := by decide +kernel
theorem dX10_feed_40 : decode cX10_feed 40 = .ok (.iconst 0, 1) := by decide +kernel
theorem dX10_feed_41 : decode cX10_feed 41 = .ok (.istore 4, 2) := by decide +kernel
theorem dX10_feed_43 : decode cX10_feed 43 = .ok (.iload 4, 2) := by decide +kernel
theorem dX10_feed_45 : decode cX10_feed 45 = .ok (.iload_n 3, 1) := by decide +kernel
theorem dX10_feed_46 : decode cX10_feed 46 = .ok (.if_icmp .ge 31, 3) := by decide +kernel
theorem dX10_feed_49 : decode cX10_feed 49 = .ok (.aload_n 0, 1) := by decide +kernel
theorem dX10_feed_50 : decode cX10_feed 50 = .ok (.getfield 10, 3) := by decide +kernel
theorem dX10_feed_53 : decode cX10_feed 53 = .ok (.getfield 144, 3) := by decide +kernel
theorem dX10_feed_56 : decode cX10_feed 56 = .ok (.lload_n 1, 1) := by decide +kernel
theorem dX10_feed_57 : decode cX10_feed 57 = .ok (.bipush 8, 2) := by decide +kernel
theorem dX10_feed_59 : decode cX10_feed 59 = .ok (.iload 4, 2) := by decide +kernel
theorem dX10_feed_61 : decode cX10_feed 61 = .ok (.imul, 1) := by decide +kernel
theorem dX10_feed_62 : decode cX10_feed 62 = .ok (.lushr, 1) := by decide +kernel
theorem dX10_feed_63 : decode cX10_feed 63 = .ok (.l2i, 1) := by decide +kernel
theorem dX10_feed_64 : decode cX10_feed 64 = .ok (.sipush 255, 3) := by decide +kernel
theorem dX10_feed_67 : decode cX10_feed 67 = .ok (.iand, 1) := by decide +kernel
theorem dX10_feed_68 : decode cX10_feed 68 = .ok (.invokevirtual 153, 3) := by decide +kernel
theorem dX10_feed_71 : decode cX10_feed 71 = .ok (.iinc 4 1, 3) := by decide +kernel
theorem dX10_feed_74 : decode cX10_feed 74 = .ok (.goto (-31), 3) := by decide +kernel
theorem dX10_feed_77 : decode cX10_feed 77 = .ok (.aload_n 0, 1) := by decide +kernel
theorem dX10_feed_78 : decode cX10_feed 78 = .ok (.getfield 10, 3) := by decide +kernel
theorem dX10_feed_81 : decode cX10_feed 81 = .ok (.getfield 144, 3) := by decide +kernel
theorem dX10_feed_84 : decode cX10_feed 84 = .ok (.getfield 148, 3) := by decide +kernel
theorem dX10_feed_87 : decode cX10_feed 87 = .ok (.ireturn, 1) := by decide +kernel
theorem dX10_text_0 : decode cX10_text 0 = .ok (.iload_n 1, 1) := by decide +kernel
theorem dX10_text_1 : decode cX10_text 1 = .ok (.iconst 1, 1) := by decide +kernel
theorem dX10_text_2 : decode cX10_text 2 = .ok (.invokestatic 58, 3) := by decide +kernel
theorem dX10_text_5 : decode cX10_text 5 = .ok (.ifCond .eq 9, 3) := by decide +kernel
