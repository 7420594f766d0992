theorem dX10_text_8 : decode cX10_text 8 = .ok (.aload_n 0, 1) := by decide +kernel
theorem dX10_text_9 : decode cX10_text 9 = .ok (.iconst 1, 1) := by decide +kernel
theorem dX10_text_10 : decode cX10_text 10 = .ok (.invokevirtual 62, 3) := by decide +kernel
theorem dX10_text_13 : decode cX10_text 13 = .ok (.ireturn, 1) := by decide +kernel
theorem dX10_text_14 : decode cX10_text 14 = .ok (.aload_n 0, 1) := by decide +kernel
theorem dX10_text_15 : decode cX10_text 15 = .ok (.getfield 28, 3) := by decide +kernel
theorem dX10_text_18 : decode cX10_text 18 = .ok (.aload_n 0, 1) := by decide +kernel
theorem dX10_text_19 : decode cX10_text 19 = .ok (.getfield 10, 3) := by decide +kernel
theorem dX10_text_22 : decode cX10_text 22 = .ok (.getfield 144, 3) := by decide +kernel
theorem dX10_text_25 : decode cX10_text 25 = .ok (.iload_n 1, 1) := by decide +kernel
theorem dX10_text_26 : decode cX10_text 26 = .ok (.invokevirtual 157, 3) := by decide +kernel
theorem dX10_text_29 : decode cX10_text 29 = .ok (.istore_n 2, 1) := by decide +kernel
theorem dX10_text_30 : decode cX10_text 30 = .ok (.aload_n 0, 1) := by decide +kernel
theorem dX10_text_31 : decode cX10_text 31 = .ok (.getfield 10, 3) := by decide +kernel
theorem dX10_text_34 : decode cX10_text 34 = .ok (.getfield 144, 3) := by decide +kernel
theorem dX10_text_37 : decode cX10_text 37 = .ok (.invokevirtual 161, 3) := by decide +kernel
theorem dX10_text_40 : decode cX10_text 40 = .ok (.iload_n 2, 1) := by decide +kernel
theorem dX10_text_41 : decode cX10_text 41 = .ok (.ifCond .lt 8, 3) := by decide +kernel
theorem dX10_text_44 : decode cX10_text 44 = .ok (.bipush (-10), 2) := by decide +kernel
theorem dX10_text_46 : decode cX10_text 46 = .ok (.iload_n 2, 1) := by decide +kernel
theorem dX10_text_47 : decode cX10_text 47 = .ok (.isub, 1) := by decide +kernel
theorem dX10_text_48 : decode cX10_text 48 = .ok (.ireturn, 1) := by decide +kernel
theorem dX10_text_49 : decode cX10_text 49 = .ok (.aload_n 0, 1) := by decide +kernel
theorem dX10_text_50 : decode cX10_text 50 = .ok (.getfield 10, 3) := by decide +kernel
theorem dX10_text_53 : decode cX10_text 53 = .ok (.getfield 83, 3) := by decide +kernel
theorem dX10_text_56 : decode cX10_text 56 = .ok (.iload_n 1, 1) := by decide +kernel
theorem dX10_text_57 : decode cX10_text 57 = .ok (.invokevirtual 164, 3) := by decide +kernel
theorem dX10_text_60 : decode cX10_text 60 = .ok (.aload_n 0, 1) := by decide +kernel
theorem dX10_text_61 : decode cX10_text 61 = .ok (.getfield 28, 3) := by decide +kernel
theorem dX10_text_64 : decode cX10_text 64 = .ok (.getfield 170, 3) := by decide +kernel
theorem dX10_text_67 : decode cX10_text 67 = .ok (.invokevirtual 174, 3) := by decide +kernel
theorem dX10_text_70 : decode cX10_text 70 = .ok (.iconst 1, 1) := by decide +kernel
theorem dX10_text_71 : decode cX10_text 71 = .ok (.ireturn, 1) := by decide +kernel
theorem dX10_law_0 : decode cX10_law 0 = .ok (.iload_n 1, 1) := by decide +kernel
theorem dX10_law_1 : decode cX10_law 1 = .ok (.iconst 1, 1) := by decide +kernel
theorem dX10_law_2 : decode cX10_law 2 = .ok (.invokestatic 58, 3) := by decide +kernel
theorem dX10_law_5 : decode cX10_law 5 = .ok (.ifCond .eq 9, 3) := by decide +kernel
theorem dX10_law_8 : decode cX10_law 8 = .ok (.aload_n 0, 1) := by decide +kernel
theorem dX10_law_9 : decode cX10_law 9 = .ok (.iconst 1, 1) := by decide +kernel
theorem dX10_law_10 : decode cX10_law 10 = .ok (.invokevirtual 62, 3) := by decide +kernel
theorem dX10_law_13 : decode cX10_law 13 = .ok (.ireturn, 1) := by decide +kernel
theorem dX10_law_14 : decode cX10_law 14 = .ok (.iload_n 1, 1) := by decide +kernel
theorem dX10_law_15 : decode cX10_law 15 = .ok (.ifCond .ne 20, 3) := by decide +kernel
theorem dX10_law_18 : decode cX10_law 18 = .ok (.aload_n 0, 1) := by decide +kernel
theorem dX10_law_19 : decode cX10_law 19 = .ok (.getfield 10, 3) := by decide +kernel
theorem dX10_law_22 : decode cX10_law 22 = .ok (.getfield 83, 3) := by decide +kernel
theorem dX10_law_25 : decode cX10_law 25 = .ok (.iload_n 2, 1) := by decide +kernel
theorem dX10_law_26 : decode cX10_law 26 = .ok (.iload_n 3, 1) := by decide +kernel
theorem dX10_law_27 : decode cX10_law 27 = .ok (.iload 4, 2) := by decide +kernel
theorem dX10_law_29 : decode cX10_law 29 = .ok (.invokevirtual 180, 3) := by decide +kernel
theorem dX10_law_32 : decode cX10_law 32 = .ok (.goto 17, 3) := by decide +kernel
theorem dX10_law_35 : decode cX10_law 35 = .ok (.aload_n 0, 1) := by decide +kernel
theorem dX10_law_36 : decode cX10_law 36 = .ok (.getfield 10, 3) := by decide +kernel
theorem dX10_law_39 : decode cX10_law 39 = .ok (.getfield 83, 3) := by decide +kernel
theorem dX10_law_42 : decode cX10_law 42 = .ok (.iload_n 2, 1) := by decide +kernel
theorem dX10_law_43 : decode cX10_law 43 = .ok (.iload_n 3, 1) := by decide +kernel
theorem dX10_law_44 : decode cX10_law 44 = .ok (.iload 4, 2) := by decide +kernel
theorem dX10_law_46 : decode cX10_law 46 = .ok (.invokevirtual 184, 3) := by decide +kernel
theorem dX10_law_49 : decode cX10_law 49 = .ok (.ireturn, 1) := by decide +kernel
theorem dX10_minutes_0 : decode cX10_minutes 0 = .ok (.iload_n 1, 1) := by decide +kernel
theorem dX10_minutes_1 : decode cX10_minutes 1 = .ok (.iconst 1, 1) := by decide +kernel
theorem dX10_minutes_2 : decode cX10_minutes 2 = .ok (.if_icmp .lt 9, 3) := by decide +kernel
theorem dX10_minutes_5 : decode cX10_minutes 5 = .ok (.iload_n 1, 1) := by decide +kernel
theorem dX10_minutes_6 : decode cX10_minutes 6 = .ok (.bipush 60, 2) := by decide +kernel
theorem dX10_minutes_8 : decode cX10_minutes 8 = .ok (.if_icmp .le 9, 3) := by decide +kernel
theorem dX10_minutes_11 : decode cX10_minutes 11 = .ok (.aload_n 0, 1) := by decide +kernel
theorem dX10_minutes_12 : decode cX10_minutes 12 = .ok (.iconst 1, 1) := by decide +kernel
theorem dX10_minutes_13 : decode cX10_minutes 13 = .ok (.invokevirtual 62, 3) := by decide +kernel
theorem dX10_minutes_16 : decode cX10_minutes 16 = .ok (.ireturn, 1) := by decide +kernel
theorem dX10_minutes_17 : decode cX10_minutes 17 = .ok (.aload_n 0, 1) := by decide +kernel
theorem dX10_minutes_18 : decode cX10_minutes 18 = .ok (.getfield 10, 3) := by decide +kernel
theorem dX10_minutes_21 : decode cX10_minutes 21 = .ok (.getfield 66, 3) := by decide +kernel
theorem dX10_minutes_24 : decode cX10_minutes 24 = .ok (.getfield 187, 3) := by decide +kernel
theorem dX10_minutes_27 : decode cX10_minutes 27 = .ok (.iload_n 1, 1) := by decide +kernel
theorem dX10_minutes_28 : decode cX10_minutes 28 = .ok (.iadd, 1) := by decide +kernel
theorem dX10_minutes_29 : decode cX10_minutes 29 = .ok (.sipush 9999, 3) := by decide +kernel
theorem dX10_minutes_32 : decode cX10_minutes 32 = .ok (.if_icmp .le 9, 3) := by decide +kernel
theorem dX10_minutes_35 : decode cX10_minutes 35 = .ok (.aload_n 0, 1) := by decide +kernel
theorem dX10_minutes_36 : decode cX10_minutes 36 = .ok (.iconst 3, 1) := by decide +kernel
theorem dX10_minutes_37 : decode cX10_minutes 37 = .ok (.invokevirtual 62, 3) := by decide +kernel
theorem dX10_minutes_40 : decode cX10_minutes 40 = .ok (.ireturn, 1) := by decide +kernel
theorem dX10_minutes_41 : decode cX10_minutes 41 = .ok (.aload_n 0, 1) := by decide +kernel
theorem dX10_minutes_42 : decode cX10_minutes 42 = .ok (.aload_n 0, 1) := by decide +kernel
theorem dX10_minutes_43 : decode cX10_minutes 43 = .ok (.getfield 10, 3) := by decide +kernel
theorem dX10_minutes_46 : decode cX10_minutes 46 = .ok (.getfield 66, 3) := by decide +kernel
theorem dX10_minutes_49 : decode cX10_minutes 49 = .ok (.iload_n 1, 1) := by decide +kernel
theorem dX10_minutes_50 : decode cX10_minutes 50 = .ok (.invokevirtual 190, 3) := by decide +kernel
theorem dX10_minutes_53 : decode cX10_minutes 53 = .ok (.ireturn, 1) := by decide +kernel
theorem dX10_loose_0 : decode cX10_loose 0 = .ok (.iload_n 1, 1) := by decide +kernel
theorem dX10_loose_1 : decode cX10_loose 1 = .ok (.iconst 1, 1) := by decide +kernel
theorem dX10_loose_2 : decode cX10_loose 2 = .ok (.if_icmp .lt 9, 3) := by decide +kernel
theorem dX10_loose_5 : decode cX10_loose 5 = .ok (.iload_n 1, 1) := by decide +kernel
theorem dX10_loose_6 : decode cX10_loose 6 = .ok (.bipush 40, 2) := by decide +kernel
theorem dX10_loose_8 : decode cX10_loose 8 = .ok (.if_icmp .le 9, 3) := by decide +kernel
theorem dX10_loose_11 : decode cX10_loose 11 = .ok (.aload_n 0, 1) := by decide +kernel
theorem dX10_loose_12 : decode cX10_loose 12 = .ok (.iconst 1, 1) := by decide +kernel
theorem dX10_loose_13 : decode cX10_loose 13 = .ok (.invokevirtual 62, 3) := by decide +kernel
theorem dX10_loose_16 : decode cX10_loose 16 = .ok (.ireturn, 1) := by decide +kernel
theorem dX10_loose_17 : decode cX10_loose 17 = .ok (.aload_n 0, 1) := by decide +kernel
theorem dX10_loose_18 : decode cX10_loose 18 = .ok (.getfield 10, 3) := by decide +kernel
theorem dX10_loose_21 : decode cX10_loose 21 = .ok (.getfield 66, 3) := by decide +kernel
theorem dX10_loose_24 : decode cX10_loose 24 = .ok (.astore_n 2, 1) := by decide +kernel
theorem dX10_loose_25 : decode cX10_loose 25 = .ok (.aload_n 2, 1) := by decide +kernel
theorem dX10_loose_26 : decode cX10_loose 26 = .ok (.getfield 187, 3) := by decide +kernel
theorem dX10_loose_29 : decode cX10_loose 29 = .ok (.iload_n 1, 1) := by decide +kernel
theorem dX10_loose_30 : decode cX10_loose 30 = .ok (.iadd, 1) := by decide +kernel
theorem dX10_loose_31 : decode cX10_loose 31 = .ok (.sipush 9999, 3) := by decide +kernel
theorem dX10_loose_34 : decode cX10_loose 34 = .ok (.if_icmp .le 9, 3) := by decide +kernel
theorem dX10_loose_37 : decode cX10_loose 37 = .ok (.aload_n 0, 1) := by decide +kernel
theorem dX10_loose_38 : decode cX10_loose 38 = .ok (.iconst 3, 1) := by decide +kernel
theorem dX10_loose_39 : decode cX10_loose 39 = .ok (.invokevirtual 62, 3) := by decide +kernel
theorem dX10_loose_42 : decode cX10_loose 42 = .ok (.ireturn, 1) := by decide +kernel
theorem dX10_loose_43 : decode cX10_loose 43 = .ok (.iconst 0, 1) := by decide +kernel
theorem dX10_loose_44 : decode cX10_loose 44 = .ok (.istore_n 3, 1) := by decide +kernel
theorem dX10_loose_45 : decode cX10_loose 45 = .ok (.iload_n 3, 1) := by decide +kernel
theorem dX10_loose_46 : decode cX10_loose 46 = .ok (.iload_n 1, 1) := by decide +kernel
theorem dX10_loose_47 : decode cX10_loose 47 = .ok (.if_icmp .ge 56, 3) := by decide +kernel
theorem dX10_loose_50 : decode cX10_loose 50 = .ok (.aload_n 2, 1) := by decide +kernel
theorem dX10_loose_51 : decode cX10_loose 51 = .ok (.getfield 91, 3) := by decide +kernel
theorem dX10_loose_54 : decode cX10_loose 54 = .ok (.aload_n 2, 1) := by decide +kernel
theorem dX10_loose_55 : decode cX10_loose 55 = .ok (.invokevirtual 194, 3) := by decide +kernel
theorem dX10_loose_58 : decode cX10_loose 58 = .ok (.aload_n 0, 1) := by decide +kernel
theorem dX10_loose_59 : decode cX10_loose 59 = .ok (.getfield 10, 3) := by decide +kernel
theorem dX10_loose_62 : decode cX10_loose 62 = .ok (.invokevirtual 198, 3) := by decide +kernel
theorem dX10_loose_65 : decode cX10_loose 65 = .ok (.iconst 5, 1) := by decide +kernel
theorem dX10_loose_66 : decode cX10_loose 66 = .ok (.irem, 1) := by decide +kernel
theorem dX10_loose_67 : decode cX10_loose 67 = .ok (.iastore, 1) := by decide +kernel
theorem dX10_loose_68 : decode cX10_loose 68 = .ok (.aload_n 2, 1) := by decide +kernel
theorem dX10_loose_69 : decode cX10_loose 69 = .ok (.getfield 73, 3) := by decide +kernel
theorem dX10_loose_72 : decode cX10_loose 72 = .ok (.aload_n 0, 1) := by decide +kernel
theorem dX10_loose_73 : decode cX10_loose 73 = .ok (.getfield 10, 3) := by decide +kernel
theorem dX10_loose_76 : decode cX10_loose 76 = .ok (.invokevirtual 198, 3) := by decide +kernel
theorem dX10_loose_79 : decode cX10_loose 79 = .ok (.bipush 16, 2) := by decide +kernel
theorem dX10_loose_81 : decode cX10_loose 81 = .ok (.irem, 1) := by decide +kernel
theorem dX10_loose_82 : decode cX10_loose 82 = .ok (.iconst 0, 1) := by decide +kernel
theorem dX10_loose_83 : decode cX10_loose 83 = .ok (.iastore, 1) := by decide +kernel
theorem dX10_loose_84 : decode cX10_loose 84 = .ok (.aload_n 2, 1) := by decide +kernel
theorem dX10_loose_85 : decode cX10_loose 85 = .ok (.aload_n 0, 1) := by decide +kernel
theorem dX10_loose_86 : decode cX10_loose 86 = .ok (.getfield 10, 3) := by decide +kernel
theorem dX10_loose_89 : decode cX10_loose 89 = .ok (.getfield 83, 3) := by decide +kernel
theorem dX10_loose_92 : decode cX10_loose 92 = .ok (.iconst (-1), 1) := by decide +kernel
theorem dX10_loose_93 : decode cX10_loose 93 = .ok (.iconst 0, 1) := by decide +kernel
theorem dX10_loose_94 : decode cX10_loose 94 = .ok (.invokevirtual 201, 3) := by decide +kernel
theorem dX10_loose_97 : decode cX10_loose 97 = .ok (.iinc 3 1, 3) := by decide +kernel
theorem dX10_loose_100 : decode cX10_loose 100 = .ok (.goto (-55), 3) := by decide +kernel
theorem dX10_loose_103 : decode cX10_loose 103 = .ok (.aload_n 2, 1) := by decide +kernel
theorem dX10_loose_104 : decode cX10_loose 104 = .ok (.invokevirtual 205, 3) := by decide +kernel
theorem dX10_loose_107 : decode cX10_loose 107 = .ok (.ireturn, 1) := by decide +kernel
theorem dX10_then_0 : decode cX10_then 0 = .ok (.iload_n 1, 1) := by decide +kernel
theorem dX10_then_1 : decode cX10_then 1 = .ok (.bipush 60, 2) := by decide +kernel
theorem dX10_then_3 : decode cX10_then 3 = .ok (.invokestatic 58, 3) := by decide +kernel
theorem dX10_then_6 : decode cX10_then 6 = .ok (.ifCond .ne 11, 3) := by decide +kernel
theorem dX10_then_9 : decode cX10_then 9 = .ok (.iload_n 2, 1) := by decide +kernel
theorem dX10_then_10 : decode cX10_then 10 = .ok (.iconst 1, 1) := by decide +kernel
theorem dX10_then_11 : decode cX10_then 11 = .ok (.invokestatic 58, 3) := by decide +kernel
theorem dX10_then_14 : decode cX10_then 14 = .ok (.ifCond .eq 9, 3) := by decide +kernel
theorem dX10_then_17 : decode cX10_then 17 = .ok (.aload_n 0, 1) := by decide +kernel
theorem dX10_then_18 : decode cX10_then 18 = .ok (.iconst 1, 1) := by decide +kernel
theorem dX10_then_19 : decode cX10_then 19 = .ok (.invokevirtual 62, 3) := by decide +kernel
theorem dX10_then_22 : decode cX10_then 22 = .ok (.ireturn, 1) := by decide +kernel
theorem dX10_then_23 : decode cX10_then 23 = .ok (.aload_n 0, 1) := by decide +kernel
theorem dX10_then_24 : decode cX10_then 24 = .ok (.invokevirtual 208, 3) := by decide +kernel
theorem dX10_then_27 : decode cX10_then 27 = .ok (.astore_n 3, 1) := by decide +kernel
theorem dX10_then_28 : decode cX10_then 28 = .ok (.aload_n 0, 1) := by decide +kernel
theorem dX10_then_29 : decode cX10_then 29 = .ok (.aload_n 3, 1) := by decide +kernel
theorem dX10_then_30 : decode cX10_then 30 = .ok (.iload_n 1, 1) := by decide +kernel
theorem dX10_then_31 : decode cX10_then 31 = .ok (.invokevirtual 190, 3) := by decide +kernel
theorem dX10_then_34 : decode cX10_then 34 = .ok (.istore 4, 2) := by decide +kernel
theorem dX10_then_36 : decode cX10_then 36 = .ok (.iload_n 2, 1) := by decide +kernel
theorem dX10_then_37 : decode cX10_then 37 = .ok (.ifCond .ne 8, 3) := by decide +kernel
theorem dX10_then_40 : decode cX10_then 40 = .ok (.iload 4, 2) := by decide +kernel
theorem dX10_then_42 : decode cX10_then 42 = .ok (.goto 7, 3) := by decide +kernel
theorem dX10_then_45 : decode cX10_then 45 = .ok (.aload_n 3, 1) := by decide +kernel
theorem dX10_then_46 : decode cX10_then 46 = .ok (.invokevirtual 212, 3) := by decide +kernel
theorem dX10_then_49 : decode cX10_then 49 = .ok (.ireturn, 1) := by decide +kernel
theorem dX10_on_0 : decode cX10_on 0 = .ok (.aload_n 0, 1) := by decide +kernel
theorem dX10_on_1 : decode cX10_on 1 = .ok (.iload_n 1, 1) := by decide +kernel
theorem dX10_on_2 : decode cX10_on 2 = .ok (.invokevirtual 112, 3) := by decide +kernel
theorem dX10_on_5 : decode cX10_on 5 = .ok (.ifCond .ne 20, 3) := by decide +kernel
theorem dX10_on_8 : decode cX10_on 8 = .ok (.iload_n 2, 1) := by decide +kernel
theorem dX10_on_9 : decode cX10_on 9 = .ok (.bipush 60, 2) := by decide +kernel
theorem dX10_on_11 : decode cX10_on 11 = .ok (.invokestatic 58, 3) := by decide +kernel
theorem dX10_on_14 : decode cX10_on 14 = .ok (.ifCond .ne 11, 3) := by decide +kernel
theorem dX10_on_17 : decode cX10_on 17 = .ok (.iload_n 3, 1) := by decide +kernel
theorem dX10_on_18 : decode cX10_on 18 = .ok (.iconst 1, 1) := by decide +kernel
theorem dX10_on_19 : decode cX10_on 19 = .ok (.invokestatic 58, 3) := by decide +kernel
theorem dX10_on_22 : decode cX10_on 22 = .ok (.ifCond .eq 9, 3) := by decide +kernel
theorem dX10_on_25 : decode cX10_on 25 = .ok (.aload_n 0, 1) := by decide +kernel
theorem dX10_on_26 : decode cX10_on 26 = .ok (.iconst 1, 1) := by decide +kernel
theorem dX10_on_27 : decode cX10_on 27 = .ok (.invokevirtual 62, 3) := by decide +kernel
theorem dX10_on_30 : decode cX10_on 30 = .ok (.ireturn, 1) := by decide +kernel
theorem dX10_on_31 : decode cX10_on 31 = .ok (.aload_n 0, 1) := by decide +kernel
theorem dX10_on_32 : decode cX10_on 32 = .ok (.invokevirtual 208, 3) := by decide +kernel
theorem dX10_on_35 : decode cX10_on 35 = .ok (.astore 4, 2) := by decide +kernel
theorem dX10_on_37 : decode cX10_on 37 = .ok (.aload_n 0, 1) := by decide +kernel
theorem dX10_on_38 : decode cX10_on 38 = .ok (.aload 4, 2) := by decide +kernel
theorem dX10_on_40 : decode cX10_on 40 = .ok (.iload_n 2, 1) := by decide +kernel
theorem dX10_on_41 : decode cX10_on 41 = .ok (.invokevirtual 190, 3) := by decide +kernel
theorem dX10_on_44 : decode cX10_on 44 = .ok (.pop, 1) := by decide +kernel
theorem dX10_on_45 : decode cX10_on 45 = .ok (.iload_n 3, 1) := by decide +kernel
theorem dX10_on_46 : decode cX10_on 46 = .ok (.ifCond .ne 13, 3) := by decide +kernel
theorem dX10_on_49 : decode cX10_on 49 = .ok (.aload 4, 2) := by decide +kernel
theorem dX10_on_51 : decode cX10_on 51 = .ok (.getfield 121, 3) := by decide +kernel
theorem dX10_on_54 : decode cX10_on 54 = .ok (.iload_n 1, 1) := by decide +kernel
theorem dX10_on_55 : decode cX10_on 55 = .ok (.iaload, 1) := by decide +kernel
theorem dX10_on_56 : decode cX10_on 56 = .ok (.goto 10, 3) := by decide +kernel
theorem dX10_on_59 : decode cX10_on 59 = .ok (.aload 4, 2) := by decide +kernel
theorem dX10_on_61 : decode cX10_on 61 = .ok (.getfield 124, 3) := by decide +kernel
theorem dX10_on_64 : decode cX10_on 64 = .ok (.iload_n 1, 1) := by decide +kernel
theorem dX10_on_65 : decode cX10_on 65 = .ok (.iaload, 1) := by decide +kernel
theorem dX10_on_66 : decode cX10_on 66 = .ok (.ireturn, 1) := by decide +kernel
theorem dX10_full_0 : decode cX10_full 0 = .ok (.aload_n 0, 1) := by decide +kernel
theorem dX10_full_1 : decode cX10_full 1 = .ok (.iload_n 1, 1) := by decide +kernel
theorem dX10_full_2 : decode cX10_full 2 = .ok (.invokevirtual 112, 3) := by decide +kernel
theorem dX10_full_5 : decode cX10_full 5 = .ok (.ifCond .ne 12, 3) := by decide +kernel
theorem dX10_full_8 : decode cX10_full 8 = .ok (.iload_n 2, 1) := by decide +kernel
theorem dX10_full_9 : decode cX10_full 9 = .ok (.bipush 99, 2) := by decide +kernel
theorem dX10_full_11 : decode cX10_full 11 = .ok (.invokestatic 58, 3) := by decide +kernel
theorem dX10_full_14 : decode cX10_full 14 = .ok (.ifCond .eq 9, 3) := by decide +kernel
theorem dX10_full_17 : decode cX10_full 17 = .ok (.aload_n 0, 1) := by decide +kernel
theorem dX10_full_18 : decode cX10_full 18 = .ok (.iconst 1, 1) := by decide +kernel
theorem dX10_full_19 : decode cX10_full 19 = .ok (.invokevirtual 62, 3) := by decide +kernel
theorem dX10_full_22 : decode cX10_full 22 = .ok (.ireturn, 1) := by decide +kernel
theorem dX10_full_23 : decode cX10_full 23 = .ok (.aload_n 0, 1) := by decide +kernel
theorem dX10_full_24 : decode cX10_full 24 = .ok (.invokevirtual 208, 3) := by decide +kernel
theorem dX10_full_27 : decode cX10_full 27 = .ok (.astore_n 3, 1) := by decide +kernel
theorem dX10_full_28 : decode cX10_full 28 = .ok (.iconst 0, 1) := by decide +kernel
theorem dX10_full_29 : decode cX10_full 29 = .ok (.istore 4, 2) := by decide +kernel
theorem dX10_full_31 : decode cX10_full 31 = .ok (.iload 4, 2) := by decide +kernel
theorem dX10_full_33 : decode cX10_full 33 = .ok (.bipush 60, 2) := by decide +kernel
theorem dX10_full_35 : decode cX10_full 35 = .ok (.if_icmp .gt 35, 3) := by decide +kernel
theorem dX10_full_38 : decode cX10_full 38 = .ok (.aload_n 3, 1) := by decide +kernel
theorem dX10_full_39 : decode cX10_full 39 = .ok (.getfield 124, 3) := by decide +kernel
theorem dX10_full_42 : decode cX10_full 42 = .ok (.iload_n 1, 1) := by decide +kernel
theorem dX10_full_43 : decode cX10_full 43 = .ok (.iaload, 1) := by decide +kernel
theorem dX10_full_44 : decode cX10_full 44 = .ok (.iload_n 2, 1) := by decide +kernel
theorem dX10_full_45 : decode cX10_full 45 = .ok (.if_icmp .lt 6, 3) := by decide +kernel
theorem dX10_full_48 : decode cX10_full 48 = .ok (.iload 4, 2) := by decide +kernel
theorem dX10_full_50 : decode cX10_full 50 = .ok (.ireturn, 1) := by decide +kernel
theorem dX10_full_51 : decode cX10_full 51 = .ok (.aload_n 3, 1) := by decide +kernel
theorem dX10_full_52 : decode cX10_full 52 = .ok (.aload_n 0, 1) := by decide +kernel
theorem dX10_full_53 : decode cX10_full 53 = .ok (.getfield 10, 3) := by decide +kernel
theorem dX10_full_56 : decode cX10_full 56 = .ok (.getfield 83, 3) := by decide +kernel
theorem dX10_full_59 : decode cX10_full 59 = .ok (.iconst (-1), 1) := by decide +kernel
theorem dX10_full_60 : decode cX10_full 60 = .ok (.iconst 0, 1) := by decide +kernel
theorem dX10_full_61 : decode cX10_full 61 = .ok (.invokevirtual 201, 3) := by decide +kernel
theorem dX10_full_64 : decode cX10_full 64 = .ok (.iinc 4 1, 3) := by decide +kernel
theorem dX10_full_67 : decode cX10_full 67 = .ok (.goto (-36), 3) := by decide +kernel
theorem dX10_full_70 : decode cX10_full 70 = .ok (.aload_n 0, 1) := by decide +kernel
theorem dX10_full_71 : decode cX10_full 71 = .ok (.iconst 2, 1) := by decide +kernel
theorem dX10_full_72 : decode cX10_full 72 = .ok (.invokevirtual 62, 3) := by decide +kernel
theorem dX10_full_75 : decode cX10_full 75 = .ok (.ireturn, 1) := by decide +kernel
theorem dX10_wayFor_0 : decode cX10_wayFor 0 = .ok (.iload_n 1, 1) := by decide +kernel
theorem dX10_wayFor_1 : decode cX10_wayFor 1 = .ok (.iconst 5, 1) := by decide +kernel
theorem dX10_wayFor_2 : decode cX10_wayFor 2 = .ok (.invokestatic 58, 3) := by decide +kernel
theorem dX10_wayFor_5 : decode cX10_wayFor 5 = .ok (.ifCond .ne 12, 3) := by decide +kernel
theorem dX10_wayFor_8 : decode cX10_wayFor 8 = .ok (.iload_n 2, 1) := by decide +kernel
theorem dX10_wayFor_9 : decode cX10_wayFor 9 = .ok (.bipush 60, 2) := by decide +kernel
theorem dX10_wayFor_11 : decode cX10_wayFor 11 = .ok (.invokestatic 58, 3) := by decide +kernel
theorem dX10_wayFor_14 : decode cX10_wayFor 14 = .ok (.ifCond .eq 9, 3) := by decide +kernel
theorem dX10_wayFor_17 : decode cX10_wayFor 17 = .ok (.aload_n 0, 1) := by decide +kernel
theorem dX10_wayFor_18 : decode cX10_wayFor 18 = .ok (.iconst 1, 1) := by decide +kernel
theorem dX10_wayFor_19 : decode cX10_wayFor 19 = .ok (.invokevirtual 62, 3) := by decide +kernel
theorem dX10_wayFor_22 : decode cX10_wayFor 22 = .ok (.ireturn, 1) := by decide +kernel
theorem dX10_wayFor_23 : decode cX10_wayFor 23 = .ok (.aload_n 0, 1) := by decide +kernel
theorem dX10_wayFor_24 : decode cX10_wayFor 24 = .ok (.iconst 0, 1) := by decide +kernel
theorem dX10_wayFor_25 : decode cX10_wayFor 25 = .ok (.iload_n 1, 1) := by decide +kernel
theorem dX10_wayFor_26 : decode cX10_wayFor 26 = .ok (.iconst 5, 1) := by decide +kernel
theorem dX10_wayFor_27 : decode cX10_wayFor 27 = .ok (.iload_n 2, 1) := by decide +kernel
theorem dX10_wayFor_28 : decode cX10_wayFor 28 = .ok (.invokevirtual 215, 3) := by decide +kernel
theorem dX10_wayFor_31 : decode cX10_wayFor 31 = .ok (.ireturn, 1) := by decide +kernel
theorem dX10_cellFor_0 : decode cX10_cellFor 0 = .ok (.aload_n 0, 1) := by decide +kernel
theorem dX10_cellFor_1 : decode cX10_cellFor 1 = .ok (.iload_n 1, 1) := by decide +kernel
theorem dX10_cellFor_2 : decode cX10_cellFor 2 = .ok (.invokevirtual 112, 3) := by decide +kernel
theorem dX10_cellFor_5 : decode cX10_cellFor 5 = .ok (.ifCond .ne 12, 3) := by decide +kernel
theorem dX10_cellFor_8 : decode cX10_cellFor 8 = .ok (.iload_n 2, 1) := by decide +kernel
theorem dX10_cellFor_9 : decode cX10_cellFor 9 = .ok (.bipush 60, 2) := by decide +kernel
theorem dX10_cellFor_11 : decode cX10_cellFor 11 = .ok (.invokestatic 58, 3) := by decide +kernel
theorem dX10_cellFor_14 : decode cX10_cellFor 14 = .ok (.ifCond .eq 9, 3) := by decide +kernel
theorem dX10_cellFor_17 : decode cX10_cellFor 17 = .ok (.aload_n 0, 1) := by decide +kernel
theorem dX10_cellFor_18 : decode cX10_cellFor 18 = .ok (.iconst 1, 1) := by decide +kernel
theorem dX10_cellFor_19 : decode cX10_cellFor 19 = .ok (.invokevirtual 62, 3) := by decide +kernel
theorem dX10_cellFor_22 : decode cX10_cellFor 22 = .ok (.ireturn, 1) := by decide +kernel
theorem dX10_cellFor_23 : decode cX10_cellFor 23 = .ok (.aload_n 0, 1) := by decide +kernel
theorem dX10_cellFor_24 : decode cX10_cellFor 24 = .ok (.iconst 1, 1) := by decide +kernel
theorem dX10_cellFor_25 : decode cX10_cellFor 25 = .ok (.iload_n 1, 1) := by decide +kernel
theorem dX10_cellFor_26 : decode cX10_cellFor 26 = .ok (.bipush 16, 2) := by decide +kernel
theorem dX10_cellFor_28 : decode cX10_cellFor 28 = .ok (.iload_n 2, 1) := by decide +kernel
theorem dX10_cellFor_29 : decode cX10_cellFor 29 = .ok (.invokevirtual 215, 3) := by decide +kernel
theorem dX10_cellFor_32 : decode cX10_cellFor 32 = .ok (.ireturn, 1) := by decide +kernel
theorem dX10_kindFor_0 : decode cX10_kindFor 0 = .ok (.aload_n 0, 1) := by decide +kernel
theorem dX10_kindFor_1 : decode cX10_kindFor 1 = .ok (.iload_n 1, 1) := by decide +kernel
theorem dX10_kindFor_2 : decode cX10_kindFor 2 = .ok (.invokevirtual 112, 3) := by decide +kernel
theorem dX10_kindFor_5 : decode cX10_kindFor 5 = .ok (.ifCond .ne 12, 3) := by decide +kernel
theorem dX10_kindFor_8 : decode cX10_kindFor 8 = .ok (.iload_n 2, 1) := by decide +kernel
theorem dX10_kindFor_9 : decode cX10_kindFor 9 = .ok (.bipush 60, 2) := by decide +kernel
theorem dX10_kindFor_11 : decode cX10_kindFor 11 = .ok (.invokestatic 58, 3) := by decide +kernel
theorem dX10_kindFor_14 : decode cX10_kindFor 14 = .ok (.ifCond .eq 9, 3) := by decide +kernel
theorem dX10_kindFor_17 : decode cX10_kindFor 17 = .ok (.aload_n 0, 1) := by decide +kernel
theorem dX10_kindFor_18 : decode cX10_kindFor 18 = .ok (.iconst 1, 1) := by decide +kernel
theorem dX10_kindFor_19 : decode cX10_kindFor 19 = .ok (.invokevirtual 62, 3) := by decide +kernel
theorem dX10_kindFor_22 : decode cX10_kindFor 22 = .ok (.ireturn, 1) := by decide +kernel
theorem dX10_kindFor_23 : decode cX10_kindFor 23 = .ok (.aload_n 0, 1) := by decide +kernel
theorem dX10_kindFor_24 : decode cX10_kindFor 24 = .ok (.iconst 2, 1) := by decide +kernel
theorem dX10_kindFor_25 : decode cX10_kindFor 25 = .ok (.iload_n 1, 1) := by decide +kernel
theorem dX10_kindFor_26 : decode cX10_kindFor 26 = .ok (.bipush 7, 2) := by decide +kernel
theorem dX10_kindFor_28 : decode cX10_kindFor 28 = .ok (.iload_n 2, 1) := by decide +kernel
theorem dX10_kindFor_29 : decode cX10_kindFor 29 = .ok (.invokevirtual 215, 3) := by decide +kernel
theorem dX10_kindFor_32 : decode cX10_kindFor 32 = .ok (.ireturn, 1) := by decide +kernel
theorem dX10_route_0 : decode cX10_route 0 = .ok (.aload_n 0, 1) := by decide +kernel
theorem dX10_route_1 : decode cX10_route 1 = .ok (.iload_n 1, 1) := by decide +kernel
theorem dX10_route_2 : decode cX10_route 2 = .ok (.invokevirtual 112, 3) := by decide +kernel
theorem dX10_route_5 : decode cX10_route 5 = .ok (.ifCond .ne 19, 3) := by decide +kernel
theorem dX10_route_8 : decode cX10_route 8 = .ok (.iload_n 2, 1) := by decide +kernel
theorem dX10_route_9 : decode cX10_route 9 = .ok (.iconst 4, 1) := by decide +kernel
theorem dX10_route_10 : decode cX10_route 10 = .ok (.invokestatic 58, 3) := by decide +kernel
theorem dX10_route_13 : decode cX10_route 13 = .ok (.ifCond .ne 11, 3) := by decide +kernel
theorem dX10_route_16 : decode cX10_route 16 = .ok (.iload_n 3, 1) := by decide +kernel
theorem dX10_route_17 : decode cX10_route 17 = .ok (.iconst 1, 1) := by decide +kernel
theorem dX10_route_18 : decode cX10_route 18 = .ok (.invokestatic 58, 3) := by decide +kernel
theorem dX10_route_21 : decode cX10_route 21 = .ok (.ifCond .eq 9, 3) := by decide +kernel
theorem dX10_route_24 : decode cX10_route 24 = .ok (.aload_n 0, 1) := by decide +kernel
theorem dX10_route_25 : decode cX10_route 25 = .ok (.iconst 1, 1) := by decide +kernel
theorem dX10_route_26 : decode cX10_route 26 = .ok (.invokevirtual 62, 3) := by decide +kernel
theorem dX10_route_29 : decode cX10_route 29 = .ok (.ireturn, 1) := by decide +kernel
theorem dX10_route_30 : decode cX10_route 30 = .ok (.aload_n 0, 1) := by decide +kernel
theorem dX10_route_31 : decode cX10_route 31 = .ok (.iconst (-1), 1) := by decide +kernel
theorem dX10_route_32 : decode cX10_route 32 = .ok (.putfield 219, 3) := by decide +kernel
theorem dX10_route_35 : decode cX10_route 35 = .ok (.aload_n 0, 1) := by decide +kernel
theorem dX10_route_36 : decode cX10_route 36 = .ok (.iconst 1, 1) := by decide +kernel
theorem dX10_route_37 : decode cX10_route 37 = .ok (.putfield 222, 3) := by decide +kernel
theorem dX10_route_40 : decode cX10_route 40 = .ok (.aload_n 0, 1) := by decide +kernel
theorem dX10_route_41 : decode cX10_route 41 = .ok (.invokevirtual 208, 3) := by decide +kernel
theorem dX10_route_44 : decode cX10_route 44 = .ok (.pop, 1) := by decide +kernel
theorem dX10_route_45 : decode cX10_route 45 = .ok (.aload_n 0, 1) := by decide +kernel
theorem dX10_route_46 : decode cX10_route 46 = .ok (.iload_n 1, 1) := by decide +kernel
theorem dX10_route_47 : decode cX10_route 47 = .ok (.iload_n 2, 1) := by decide +kernel
theorem dX10_route_48 : decode cX10_route 48 = .ok (.iconst 0, 1) := by decide +kernel
theorem dX10_route_49 : decode cX10_route 49 = .ok (.iconst 1, 1) := by decide +kernel
theorem dX10_route_50 : decode cX10_route 50 = .ok (.invokevirtual 225, 3) := by decide +kernel
theorem dX10_route_53 : decode cX10_route 53 = .ok (.iload_n 3, 1) := by decide +kernel
theorem dX10_route_54 : decode cX10_route 54 = .ok (.ifCond .ne 10, 3) := by decide +kernel
theorem dX10_route_57 : decode cX10_route 57 = .ok (.aload_n 0, 1) := by decide +kernel
theorem dX10_route_58 : decode cX10_route 58 = .ok (.getfield 222, 3) := by decide +kernel
theorem dX10_route_61 : decode cX10_route 61 = .ok (.goto 7, 3) := by decide +kernel
theorem dX10_route_64 : decode cX10_route 64 = .ok (.aload_n 0, 1) := by decide +kernel
theorem dX10_route_65 : decode cX10_route 65 = .ok (.getfield 219, 3) := by decide +kernel
theorem dX10_route_68 : decode cX10_route 68 = .ok (.ireturn, 1) := by decide +kernel
theorem dX10_darkFor_0 : decode cX10_darkFor 0 = .ok (.iload_n 1, 1) := by decide +kernel
theorem dX10_darkFor_1 : decode cX10_darkFor 1 = .ok (.bipush 60, 2) := by decide +kernel
theorem dX10_darkFor_3 : decode cX10_darkFor 3 = .ok (.invokestatic 58, 3) := by decide +kernel
theorem dX10_darkFor_6 : decode cX10_darkFor 6 = .ok (.ifCond .ne 13, 3) := by decide +kernel
theorem dX10_darkFor_9 : decode cX10_darkFor 9 = .ok (.iload_n 2, 1) := by decide +kernel
theorem dX10_darkFor_10 : decode cX10_darkFor 10 = .ok (.sipush 792, 3) := by decide +kernel
theorem dX10_darkFor_13 : decode cX10_darkFor 13 = .ok (.invokestatic 58, 3) := by decide +kernel
theorem dX10_darkFor_16 : decode cX10_darkFor 16 = .ok (.ifCond .eq 9, 3) := by decide +kernel
theorem dX10_darkFor_19 : decode cX10_darkFor 19 = .ok (.aload_n 0, 1) := by decide +kernel
theorem dX10_darkFor_20 : decode cX10_darkFor 20 = .ok (.iconst 1, 1) := by decide +kernel
theorem dX10_darkFor_21 : decode cX10_darkFor 21 = .ok (.invokevirtual 62, 3) := by decide +kernel
theorem dX10_darkFor_24 : decode cX10_darkFor 24 = .ok (.ireturn, 1) := by decide +kernel
theorem dX10_darkFor_25 : decode cX10_darkFor 25 = .ok (.iconst 1, 1) := by decide +kernel
theorem dX10_darkFor_26 : decode cX10_darkFor 26 = .ok (.istore_n 3, 1) := by decide +kernel
theorem dX10_darkFor_27 : decode cX10_darkFor 27 = .ok (.iload_n 3, 1) := by decide +kernel
theorem dX10_darkFor_28 : decode cX10_darkFor 28 = .ok (.bipush 20, 2) := by decide +kernel
theorem dX10_darkFor_30 : decode cX10_darkFor 30 = .ok (.if_icmp .gt 27, 3) := by decide +kernel
theorem dX10_darkFor_33 : decode cX10_darkFor 33 = .ok (.aload_n 0, 1) := by decide +kernel
theorem dX10_darkFor_34 : decode cX10_darkFor 34 = .ok (.aload_n 0, 1) := by decide +kernel
theorem dX10_darkFor_35 : decode cX10_darkFor 35 = .ok (.iconst 4, 1) := by decide +kernel
theorem dX10_darkFor_36 : decode cX10_darkFor 36 = .ok (.iconst 0, 1) := by decide +kernel
theorem dX10_darkFor_37 : decode cX10_darkFor 37 = .ok (.iload_n 3, 1) := by decide +kernel
theorem dX10_darkFor_38 : decode cX10_darkFor 38 = .ok (.invokevirtual 229, 3) := by decide +kernel
theorem dX10_darkFor_41 : decode cX10_darkFor 41 = .ok (.iload_n 1, 1) := by decide +kernel
theorem dX10_darkFor_42 : decode cX10_darkFor 42 = .ok (.invokevirtual 190, 3) := by decide +kernel
theorem dX10_darkFor_45 : decode cX10_darkFor 45 = .ok (.iload_n 2, 1) := by decide +kernel
theorem dX10_darkFor_46 : decode cX10_darkFor 46 = .ok (.if_icmp .lt 5, 3) := by decide +kernel
theorem dX10_darkFor_49 : decode cX10_darkFor 49 = .ok (.iload_n 3, 1) := by decide +kernel
theorem dX10_darkFor_50 : decode cX10_darkFor 50 = .ok (.ireturn, 1) := by decide +kernel
theorem dX10_darkFor_51 : decode cX10_darkFor 51 = .ok (.iinc 3 1, 3) := by decide +kernel
theorem dX10_darkFor_54 : decode cX10_darkFor 54 = .ok (.goto (-27), 3) := by decide +kernel
theorem dX10_darkFor_57 : decode cX10_darkFor 57 = .ok (.aload_n 0, 1) := by decide +kernel
theorem dX10_darkFor_58 : decode cX10_darkFor 58 = .ok (.iconst 2, 1) := by decide +kernel
theorem dX10_darkFor_59 : decode cX10_darkFor 59 = .ok (.invokevirtual 62, 3) := by decide +kernel
theorem dX10_darkFor_62 : decode cX10_darkFor 62 = .ok (.ireturn, 1) := by decide +kernel
theorem dX10_match_0 : decode cX10_match 0 = .ok (.iload_n 1, 1) := by decide +kernel
theorem dX10_match_1 : decode cX10_match 1 = .ok (.iconst (-1), 1) := by decide +kernel
theorem dX10_match_2 : decode cX10_match 2 = .ok (.if_icmp .lt 9, 3) := by decide +kernel
theorem dX10_match_5 : decode cX10_match 5 = .ok (.iload_n 1, 1) := by decide +kernel
theorem dX10_match_6 : decode cX10_match 6 = .ok (.bipush 6, 2) := by decide +kernel
theorem dX10_match_8 : decode cX10_match 8 = .ok (.if_icmp .lt 9, 3) := by decide +kernel
theorem dX10_match_11 : decode cX10_match 11 = .ok (.aload_n 0, 1) := by decide +kernel
theorem dX10_match_12 : decode cX10_match 12 = .ok (.iconst 1, 1) := by decide +kernel
theorem dX10_match_13 : decode cX10_match 13 = .ok (.invokevirtual 62, 3) := by decide +kernel
theorem dX10_match_16 : decode cX10_match 16 = .ok (.ireturn, 1) := by decide +kernel
theorem dX10_match_17 : decode cX10_match 17 = .ok (.aload_n 0, 1) := by decide +kernel
theorem dX10_match_18 : decode cX10_match 18 = .ok (.getfield 42, 3) := by decide +kernel
theorem dX10_match_21 : decode cX10_match 21 = .ok (.aload_n 0, 1) := by decide +kernel
theorem dX10_match_22 : decode cX10_match 22 = .ok (.getfield 10, 3) := by decide +kernel
theorem dX10_match_25 : decode cX10_match 25 = .ok (.invokevirtual 233, 3) := by decide +kernel
theorem dX10_match_28 : decode cX10_match 28 = .ok (.iload_n 1, 1) := by decide +kernel
theorem dX10_match_29 : decode cX10_match 29 = .ok (.iconst (-1), 1) := by decide +kernel
theorem dX10_match_30 : decode cX10_match 30 = .ok (.if_icmp .ne 13, 3) := by decide +kernel
theorem dX10_match_33 : decode cX10_match 33 = .ok (.aload_n 0, 1) := by decide +kernel
theorem dX10_match_34 : decode cX10_match 34 = .ok (.getfield 42, 3) := by decide +kernel
theorem dX10_match_37 : decode cX10_match 37 = .ok (.invokevirtual 237, 3) := by decide +kernel
theorem dX10_match_40 : decode cX10_match 40 = .ok (.goto 11, 3) := by decide +kernel
theorem dX10_match_43 : decode cX10_match 43 = .ok (.aload_n 0, 1) := by decide +kernel
theorem dX10_match_44 : decode cX10_match 44 = .ok (.getfield 42, 3) := by decide +kernel
theorem dX10_match_47 : decode cX10_match 47 = .ok (.iload_n 1, 1) := by decide +kernel
theorem dX10_match_48 : decode cX10_match 48 = .ok (.invokevirtual 240, 3) := by decide +kernel
theorem dX10_match_51 : decode cX10_match 51 = .ok (.ireturn, 1) := by decide +kernel
theorem dX10_blend_0 : decode cX10_blend 0 = .ok (.iload_n 1, 1) := by decide +kernel
theorem dX10_blend_1 : decode cX10_blend 1 = .ok (.sipush 198, 3) := by decide +kernel
theorem dX10_blend_4 : decode cX10_blend 4 = .ok (.invokestatic 58, 3) := by decide +kernel
theorem dX10_blend_7 : decode cX10_blend 7 = .ok (.ifCond .eq 9, 3) := by decide +kernel
theorem dX10_blend_10 : decode cX10_blend 10 = .ok (.aload_n 0, 1) := by decide +kernel
theorem dX10_blend_11 : decode cX10_blend 11 = .ok (.iconst 1, 1) := by decide +kernel
theorem dX10_blend_12 : decode cX10_blend 12 = .ok (.invokevirtual 62, 3) := by decide +kernel
theorem dX10_blend_15 : decode cX10_blend 15 = .ok (.ireturn, 1) := by decide +kernel
theorem dX10_blend_16 : decode cX10_blend 16 = .ok (.aload_n 0, 1) := by decide +kernel
theorem dX10_blend_17 : decode cX10_blend 17 = .ok (.getfield 10, 3) := by decide +kernel
theorem dX10_blend_20 : decode cX10_blend 20 = .ok (.getfield 66, 3) := by decide +kernel
theorem dX10_blend_23 : decode cX10_blend 23 = .ok (.astore_n 2, 1) := by decide +kernel
theorem dX10_blend_24 : decode cX10_blend 24 = .ok (.aload_n 2, 1) := by decide +kernel
theorem dX10_blend_25 : decode cX10_blend 25 = .ok (.getfield 105, 3) := by decide +kernel
theorem dX10_blend_28 : decode cX10_blend 28 = .ok (.iconst 2, 1) := by decide +kernel
theorem dX10_blend_29 : decode cX10_blend 29 = .ok (.if_icmp .ge 9, 3) := by decide +kernel
theorem dX10_blend_32 : decode cX10_blend 32 = .ok (.aload_n 0, 1) := by decide +kernel
theorem dX10_blend_33 : decode cX10_blend 33 = .ok (.iconst 2, 1) := by decide +kernel
theorem dX10_blend_34 : decode cX10_blend 34 = .ok (.invokevirtual 62, 3) := by decide +kernel
theorem dX10_blend_37 : decode cX10_blend 37 = .ok (.ireturn, 1) := by decide +kernel
theorem dX10_blend_38 : decode cX10_blend 38 = .ok (.iconst 0, 1) := by decide +kernel
theorem dX10_blend_39 : decode cX10_blend 39 = .ok (.istore_n 3, 1) := by decide +kernel
theorem dX10_blend_40 : decode cX10_blend 40 = .ok (.sipush 199, 3) := by decide +kernel
theorem dX10_blend_43 : decode cX10_blend 43 = .ok (.istore 4, 2) := by decide +kernel
theorem dX10_blend_45 : decode cX10_blend 45 = .ok (.iconst 0, 1) := by decide +kernel
theorem dX10_blend_46 : decode cX10_blend 46 = .ok (.istore 5, 2) := by decide +kernel
theorem dX10_blend_48 : decode cX10_blend 48 = .ok (.iload 5, 2) := by decide +kernel
theorem dX10_blend_50 : decode cX10_blend 50 = .ok (.aload_n 2, 1) := by decide +kernel
theorem dX10_blend_51 : decode cX10_blend 51 = .ok (.getfield 105, 3) := by decide +kernel
theorem dX10_blend_54 : decode cX10_blend 54 = .ok (.if_icmp .ge 72, 3) := by decide +kernel
theorem dX10_blend_57 : decode cX10_blend 57 = .ok (.iload 5, 2) := by decide +kernel
theorem dX10_blend_59 : decode cX10_blend 59 = .ok (.iconst 1, 1) := by decide +kernel
theorem dX10_blend_60 : decode cX10_blend 60 = .ok (.iadd, 1) := by decide +kernel
theorem dX10_blend_61 : decode cX10_blend 61 = .ok (.istore 6, 2) := by decide +kernel
theorem dX10_blend_63 : decode cX10_blend 63 = .ok (.iload 6, 2) := by decide +kernel
theorem dX10_blend_65 : decode cX10_blend 65 = .ok (.aload_n 2, 1) := by decide +kernel
theorem dX10_blend_66 : decode cX10_blend 66 = .ok (.getfield 105, 3) := by decide +kernel
theorem dX10_blend_69 : decode cX10_blend 69 = .ok (.if_icmp .ge 51, 3) := by decide +kernel
theorem dX10_blend_72 : decode cX10_blend 72 = .ok (.aload_n 2, 1) := by decide +kernel
theorem dX10_blend_73 : decode cX10_blend 73 = .ok (.getfield 124, 3) := by decide +kernel
theorem dX10_blend_76 : decode cX10_blend 76 = .ok (.iload 5, 2) := by decide +kernel
theorem dX10_blend_78 : decode cX10_blend 78 = .ok (.iaload, 1) := by decide +kernel
theorem dX10_blend_79 : decode cX10_blend 79 = .ok (.aload_n 2, 1) := by decide +kernel
theorem dX10_blend_80 : decode cX10_blend 80 = .ok (.getfield 124, 3) := by decide +kernel
theorem dX10_blend_83 : decode cX10_blend 83 = .ok (.iload 6, 2) := by decide +kernel
theorem dX10_blend_85 : decode cX10_blend 85 = .ok (.iaload, 1) := by decide +kernel
theorem dX10_blend_86 : decode cX10_blend 86 = .ok (.iadd, 1) := by decide +kernel
theorem dX10_blend_87 : decode cX10_blend 87 = .ok (.iload_n 1, 1) := by decide +kernel
theorem dX10_blend_88 : decode cX10_blend 88 = .ok (.isub, 1) := by decide +kernel
theorem dX10_blend_89 : decode cX10_blend 89 = .ok (.invokestatic 243, 3) := by decide +kernel
theorem dX10_blend_92 : decode cX10_blend 92 = .ok (.istore 7, 2) := by decide +kernel
theorem dX10_blend_94 : decode cX10_blend 94 = .ok (.iload 7, 2) := by decide +kernel
theorem dX10_blend_96 : decode cX10_blend 96 = .ok (.iload 4, 2) := by decide +kernel
theorem dX10_blend_98 : decode cX10_blend 98 = .ok (.if_icmp .ge 16, 3) := by decide +kernel
theorem dX10_blend_101 : decode cX10_blend 101 = .ok (.iload 7, 2) := by decide +kernel
theorem dX10_blend_103 : decode cX10_blend 103 = .ok (.istore 4, 2) := by decide +kernel
theorem dX10_blend_105 : decode cX10_blend 105 = .ok (.bipush 10, 2) := by decide +kernel
theorem dX10_blend_107 : decode cX10_blend 107 = .ok (.iload 5, 2) := by decide +kernel
theorem dX10_blend_109 : decode cX10_blend 109 = .ok (.imul, 1) := by decide +kernel
theorem dX10_blend_110 : decode cX10_blend 110 = .ok (.iload 6, 2) := by decide +kernel
theorem dX10_blend_112 : decode cX10_blend 112 = .ok (.iadd, 1) := by decide +kernel
theorem dX10_blend_113 : decode cX10_blend 113 = .ok (.istore_n 3, 1) := by decide +kernel
theorem dX10_blend_114 : decode cX10_blend 114 = .ok (.iinc 6 1, 3) := by decide +kernel
theorem dX10_blend_117 : decode cX10_blend 117 = .ok (.goto (-54), 3) := by decide +kernel
theorem dX10_blend_120 : decode cX10_blend 120 = .ok (.iinc 5 1, 3) := by decide +kernel
theorem dX10_blend_123 : decode cX10_blend 123 = .ok (.goto (-75), 3) := by decide +kernel
theorem dX10_blend_126 : decode cX10_blend 126 = .ok (.iload_n 3, 1) := by decide +kernel
theorem dX10_blend_127 : decode cX10_blend 127 = .ok (.ireturn, 1) := by decide +kernel
theorem dX10_which_0 : decode cX10_which 0 = .ok (.iload_n 1, 1) := by decide +kernel
theorem dX10_which_1 : decode cX10_which 1 = .ok (.iconst 3, 1) := by decide +kernel
theorem dX10_which_2 : decode cX10_which 2 = .ok (.invokestatic 58, 3) := by decide +kernel
theorem dX10_which_5 : decode cX10_which 5 = .ok (.ifCond .ne 11, 3) := by decide +kernel
theorem dX10_which_8 : decode cX10_which 8 = .ok (.aload_n 0, 1) := by decide +kernel
theorem dX10_which_9 : decode cX10_which 9 = .ok (.iload_n 2, 1) := by decide +kernel
theorem dX10_which_10 : decode cX10_which 10 = .ok (.invokevirtual 112, 3) := by decide +kernel
theorem dX10_which_13 : decode cX10_which 13 = .ok (.ifCond .eq 9, 3) := by decide +kernel
theorem dX10_which_16 : decode cX10_which 16 = .ok (.aload_n 0, 1) := by decide +kernel
theorem dX10_which_17 : decode cX10_which 17 = .ok (.iconst 1, 1) := by decide +kernel
theorem dX10_which_18 : decode cX10_which 18 = .ok (.invokevirtual 62, 3) := by decide +kernel
theorem dX10_which_21 : decode cX10_which 21 = .ok (.ireturn, 1) := by decide +kernel
theorem dX10_which_22 : decode cX10_which 22 = .ok (.aload_n 0, 1) := by decide +kernel
theorem dX10_which_23 : decode cX10_which 23 = .ok (.getfield 48, 3) := by decide +kernel
theorem dX10_which_26 : decode cX10_which 26 = .ok (.iload_n 1, 1) := by decide +kernel
theorem dX10_which_27 : decode cX10_which 27 = .ok (.aaload, 1) := by decide +kernel
theorem dX10_which_28 : decode cX10_which 28 = .ok (.invokevirtual 248, 3) := by decide +kernel
theorem dX10_which_31 : decode cX10_which 31 = .ok (.ifCond .eq 9, 3) := by decide +kernel
theorem dX10_which_34 : decode cX10_which 34 = .ok (.aload_n 0, 1) := by decide +kernel
theorem dX10_which_35 : decode cX10_which 35 = .ok (.iconst 2, 1) := by decide +kernel
theorem dX10_which_36 : decode cX10_which 36 = .ok (.invokevirtual 62, 3) := by decide +kernel
theorem dX10_which_39 : decode cX10_which 39 = .ok (.ireturn, 1) := by decide +kernel
theorem dX10_which_40 : decode cX10_which 40 = .ok (.iconst 0, 1) := by decide +kernel
theorem dX10_which_41 : decode cX10_which 41 = .ok (.istore_n 3, 1) := by decide +kernel
theorem dX10_which_42 : decode cX10_which 42 = .ok (.iconst 0, 1) := by decide +kernel
theorem dX10_which_43 : decode cX10_which 43 = .ok (.istore 4, 2) := by decide +kernel
theorem dX10_which_45 : decode cX10_which 45 = .ok (.iload 4, 2) := by decide +kernel
theorem dX10_which_47 : decode cX10_which 47 = .ok (.bipush 7, 2) := by decide +kernel
theorem dX10_which_49 : decode cX10_which 49 = .ok (.if_icmp .ge 41, 3) := by decide +kernel
theorem dX10_which_52 : decode cX10_which 52 = .ok (.aload_n 0, 1) := by decide +kernel
theorem dX10_which_53 : decode cX10_which 53 = .ok (.aload_n 0, 1) := by decide +kernel
theorem dX10_which_54 : decode cX10_which 54 = .ok (.iconst 2, 1) := by decide +kernel
theorem dX10_which_55 : decode cX10_which 55 = .ok (.iload_n 2, 1) := by decide +kernel
theorem dX10_which_56 : decode cX10_which 56 = .ok (.iload 4, 2) := by decide +kernel
theorem dX10_which_58 : decode cX10_which 58 = .ok (.invokevirtual 229, 3) := by decide +kernel
theorem dX10_which_61 : decode cX10_which 61 = .ok (.aload_n 0, 1) := by decide +kernel
theorem dX10_which_62 : decode cX10_which 62 = .ok (.getfield 48, 3) := by decide +kernel
theorem dX10_which_65 : decode cX10_which 65 = .ok (.iload_n 1, 1) := by decide +kernel
theorem dX10_which_66 : decode cX10_which 66 = .ok (.aaload, 1) := by decide +kernel
theorem dX10_which_67 : decode cX10_which 67 = .ok (.getfield 252, 3) := by decide +kernel
theorem dX10_which_70 : decode cX10_which 70 = .ok (.invokevirtual 255, 3) := by decide +kernel
theorem dX10_which_73 : decode cX10_which 73 = .ok (.iconst (-1), 1) := by decide +kernel
theorem dX10_which_74 : decode cX10_which 74 = .ok (.if_icmp .ne 10, 3) := by decide +kernel
theorem dX10_which_77 : decode cX10_which 77 = .ok (.iload_n 3, 1) := by decide +kernel
theorem dX10_which_78 : decode cX10_which 78 = .ok (.iconst 1, 1) := by decide +kernel
theorem dX10_which_79 : decode cX10_which 79 = .ok (.iload 4, 2) := by decide +kernel
theorem dX10_which_81 : decode cX10_which 81 = .ok (.ishl, 1) := by decide +kernel
theorem dX10_which_82 : decode cX10_which 82 = .ok (.ior, 1) := by decide +kernel
theorem dX10_which_83 : decode cX10_which 83 = .ok (.istore_n 3, 1) := by decide +kernel
theorem dX10_which_84 : decode cX10_which 84 = .ok (.iinc 4 1, 3) := by decide +kernel
theorem dX10_which_87 : decode cX10_which 87 = .ok (.goto (-42), 3) := by decide +kernel
theorem dX10_which_90 : decode cX10_which 90 = .ok (.iload_n 3, 1) := by decide +kernel
theorem dX10_which_91 : decode cX10_which 91 = .ok (.ireturn, 1) := by decide +kernel
theorem dX10_lay_0 : decode cX10_lay 0 = .ok (.iload_n 1, 1) := by decide +kernel
theorem dX10_lay_1 : decode cX10_lay 1 = .ok (.iconst 3, 1) := by decide +kernel
theorem dX10_lay_2 : decode cX10_lay 2 = .ok (.invokestatic 58, 3) := by decide +kernel
theorem dX10_lay_5 : decode cX10_lay 5 = .ok (.ifCond .ne 20, 3) := by decide +kernel
theorem dX10_lay_8 : decode cX10_lay 8 = .ok (.iload_n 2, 1) := by decide +kernel
theorem dX10_lay_9 : decode cX10_lay 9 = .ok (.bipush 15, 2) := by decide +kernel
theorem dX10_lay_11 : decode cX10_lay 11 = .ok (.invokestatic 58, 3) := by decide +kernel
theorem dX10_lay_14 : decode cX10_lay 14 = .ok (.ifCond .ne 11, 3) := by decide +kernel
theorem dX10_lay_17 : decode cX10_lay 17 = .ok (.iload_n 3, 1) := by decide +kernel
theorem dX10_lay_18 : decode cX10_lay 18 = .ok (.iconst 1, 1) := by decide +kernel
theorem dX10_lay_19 : decode cX10_lay 19 = .ok (.invokestatic 58, 3) := by decide +kernel
theorem dX10_lay_22 : decode cX10_lay 22 = .ok (.ifCond .eq 9, 3) := by decide +kernel
theorem dX10_lay_25 : decode cX10_lay 25 = .ok (.aload_n 0, 1) := by decide +kernel
theorem dX10_lay_26 : decode cX10_lay 26 = .ok (.iconst 1, 1) := by decide +kernel
theorem dX10_lay_27 : decode cX10_lay 27 = .ok (.invokevirtual 62, 3) := by decide +kernel
theorem dX10_lay_30 : decode cX10_lay 30 = .ok (.ireturn, 1) := by decide +kernel
theorem dX10_lay_31 : decode cX10_lay 31 = .ok (.aload_n 0, 1) := by decide +kernel
theorem dX10_lay_32 : decode cX10_lay 32 = .ok (.getfield 48, 3) := by decide +kernel
theorem dX10_lay_35 : decode cX10_lay 35 = .ok (.iload_n 1, 1) := by decide +kernel
theorem dX10_lay_36 : decode cX10_lay 36 = .ok (.aaload, 1) := by decide +kernel
theorem dX10_lay_37 : decode cX10_lay 37 = .ok (.invokevirtual 248, 3) := by decide +kernel
theorem dX10_lay_40 : decode cX10_lay 40 = .ok (.ifCond .eq 9, 3) := by decide +kernel
theorem dX10_lay_43 : decode cX10_lay 43 = .ok (.aload_n 0, 1) := by decide +kernel
theorem dX10_lay_44 : decode cX10_lay 44 = .ok (.iconst 2, 1) := by decide +kernel
theorem dX10_lay_45 : decode cX10_lay 45 = .ok (.invokevirtual 62, 3) := by decide +kernel
theorem dX10_lay_48 : decode cX10_lay 48 = .ok (.ireturn, 1) := by decide +kernel
theorem dX10_lay_49 : decode cX10_lay 49 = .ok (.iconst 0, 1) := by decide +kernel
theorem dX10_lay_50 : decode cX10_lay 50 = .ok (.istore 4, 2) := by decide +kernel
theorem dX10_lay_52 : decode cX10_lay 52 = .ok (.iconst 0, 1) := by decide +kernel
theorem dX10_lay_53 : decode cX10_lay 53 = .ok (.istore 5, 2) := by decide +kernel
theorem dX10_lay_55 : decode cX10_lay 55 = .ok (.iload 5, 2) := by decide +kernel
theorem dX10_lay_57 : decode cX10_lay 57 = .ok (.bipush 99, 2) := by decide +kernel
theorem dX10_lay_59 : decode cX10_lay 59 = .ok (.if_icmp .gt 45, 3) := by decide +kernel
theorem dX10_lay_62 : decode cX10_lay 62 = .ok (.aload_n 0, 1) := by decide +kernel
theorem dX10_lay_63 : decode cX10_lay 63 = .ok (.aload_n 0, 1) := by decide +kernel
theorem dX10_lay_64 : decode cX10_lay 64 = .ok (.iconst 3, 1) := by decide +kernel
theorem dX10_lay_65 : decode cX10_lay 65 = .ok (.iload_n 2, 1) := by decide +kernel
theorem dX10_lay_66 : decode cX10_lay 66 = .ok (.iload 5, 2) := by decide +kernel
theorem dX10_lay_68 : decode cX10_lay 68 = .ok (.invokevirtual 229, 3) := by decide +kernel
theorem dX10_lay_71 : decode cX10_lay 71 = .ok (.aload_n 0, 1) := by decide +kernel
theorem dX10_lay_72 : decode cX10_lay 72 = .ok (.getfield 48, 3) := by decide +kernel
theorem dX10_lay_75 : decode cX10_lay 75 = .ok (.iload_n 1, 1) := by decide +kernel
theorem dX10_lay_76 : decode cX10_lay 76 = .ok (.aaload, 1) := by decide +kernel
theorem dX10_lay_77 : decode cX10_lay 77 = .ok (.getfield 252, 3) := by decide +kernel
theorem dX10_lay_80 : decode cX10_lay 80 = .ok (.invokevirtual 255, 3) := by decide +kernel
theorem dX10_lay_83 : decode cX10_lay 83 = .ok (.iconst (-1), 1) := by decide +kernel
theorem dX10_lay_84 : decode cX10_lay 84 = .ok (.if_icmp .ne 14, 3) := by decide +kernel
theorem dX10_lay_87 : decode cX10_lay 87 = .ok (.iload_n 3, 1) := by decide +kernel
theorem dX10_lay_88 : decode cX10_lay 88 = .ok (.iconst 1, 1) := by decide +kernel
theorem dX10_lay_89 : decode cX10_lay 89 = .ok (.if_icmp .ne 6, 3) := by decide +kernel
theorem dX10_lay_92 : decode cX10_lay 92 = .ok (.iload 5, 2) := by decide +kernel
theorem dX10_lay_94 : decode cX10_lay 94 = .ok (.ireturn, 1) := by decide +kernel
theorem dX10_lay_95 : decode cX10_lay 95 = .ok (.iinc 4 1, 3) := by decide +kernel
theorem dX10_lay_98 : decode cX10_lay 98 = .ok (.iinc 5 1, 3) := by decide +kernel
theorem dX10_lay_101 : decode cX10_lay 101 = .ok (.goto (-46), 3) := by decide +kernel
theorem dX10_lay_104 : decode cX10_lay 104 = .ok (.iload_n 3, 1) := by decide +kernel
theorem dX10_lay_105 : decode cX10_lay 105 = .ok (.iconst 1, 1) := by decide +kernel
theorem dX10_lay_106 : decode cX10_lay 106 = .ok (.if_icmp .ne 11, 3) := by decide +kernel
theorem dX10_lay_109 : decode cX10_lay 109 = .ok (.aload_n 0, 1) := by decide +kernel
theorem dX10_lay_110 : decode cX10_lay 110 = .ok (.iconst 2, 1) := by decide +kernel
theorem dX10_lay_111 : decode cX10_lay 111 = .ok (.invokevirtual 62, 3) := by decide +kernel
theorem dX10_lay_114 : decode cX10_lay 114 = .ok (.goto 5, 3) := by decide +kernel
theorem dX10_lay_117 : decode cX10_lay 117 = .ok (.iload 4, 2) := by decide +kernel
theorem dX10_lay_119 : decode cX10_lay 119 = .ok (.ireturn, 1) := by decide +kernel
theorem dX10_odds_0 : decode cX10_odds 0 = .ok (.iload_n 1, 1) := by decide +kernel
theorem dX10_odds_1 : decode cX10_odds 1 = .ok (.bipush 30, 2) := by decide +kernel
theorem dX10_odds_3 : decode cX10_odds 3 = .ok (.invokestatic 58, 3) := by decide +kernel
theorem dX10_odds_6 : decode cX10_odds 6 = .ok (.ifCond .ne 21, 3) := by decide +kernel
theorem dX10_odds_9 : decode cX10_odds 9 = .ok (.iload_n 2, 1) := by decide +kernel
theorem dX10_odds_10 : decode cX10_odds 10 = .ok (.sipush 792, 3) := by decide +kernel
theorem dX10_odds_13 : decode cX10_odds 13 = .ok (.invokestatic 58, 3) := by decide +kernel
theorem dX10_odds_16 : decode cX10_odds 16 = .ok (.ifCond .ne 11, 3) := by decide +kernel
theorem dX10_odds_19 : decode cX10_odds 19 = .ok (.iload_n 3, 1) := by decide +kernel
theorem dX10_odds_20 : decode cX10_odds 20 = .ok (.iconst 1, 1) := by decide +kernel
theorem dX10_odds_21 : decode cX10_odds 21 = .ok (.invokestatic 58, 3) := by decide +kernel
theorem dX10_odds_24 : decode cX10_odds 24 = .ok (.ifCond .eq 9, 3) := by decide +kernel
theorem dX10_odds_27 : decode cX10_odds 27 = .ok (.aload_n 0, 1) := by decide +kernel
theorem dX10_odds_28 : decode cX10_odds 28 = .ok (.iconst 1, 1) := by decide +kernel
theorem dX10_odds_29 : decode cX10_odds 29 = .ok (.invokevirtual 62, 3) := by decide +kernel
theorem dX10_odds_32 : decode cX10_odds 32 = .ok (.ireturn, 1) := by decide +kernel
theorem dX10_odds_33 : decode cX10_odds 33 = .ok (.iconst 0, 1) := by decide +kernel
theorem dX10_odds_34 : decode cX10_odds 34 = .ok (.istore 4, 2) := by decide +kernel
theorem dX10_odds_36 : decode cX10_odds 36 = .ok (.iconst 1, 1) := by decide +kernel
theorem dX10_odds_37 : decode cX10_odds 37 = .ok (.istore 5, 2) := by decide +kernel
theorem dX10_odds_39 : decode cX10_odds 39 = .ok (.iload 5, 2) := by decide +kernel
theorem dX10_odds_41 : decode cX10_odds 41 = .ok (.bipush 20, 2) := by decide +kernel
theorem dX10_odds_43 : decode cX10_odds 43 = .ok (.if_icmp .gt 29, 3) := by decide +kernel
theorem dX10_odds_46 : decode cX10_odds 46 = .ok (.aload_n 0, 1) := by decide +kernel
theorem dX10_odds_47 : decode cX10_odds 47 = .ok (.aload_n 0, 1) := by decide +kernel
theorem dX10_odds_48 : decode cX10_odds 48 = .ok (.iconst 4, 1) := by decide +kernel
theorem dX10_odds_49 : decode cX10_odds 49 = .ok (.iconst 0, 1) := by decide +kernel
theorem dX10_odds_50 : decode cX10_odds 50 = .ok (.iload 5, 2) := by decide +kernel
theorem dX10_odds_52 : decode cX10_odds 52 = .ok (.invokevirtual 229, 3) := by decide +kernel
theorem dX10_odds_55 : decode cX10_odds 55 = .ok (.iload_n 1, 1) := by decide +kernel
theorem dX10_odds_56 : decode cX10_odds 56 = .ok (.invokevirtual 190, 3) := by decide +kernel
theorem dX10_odds_59 : decode cX10_odds 59 = .ok (.iload_n 2, 1) := by decide +kernel
theorem dX10_odds_60 : decode cX10_odds 60 = .ok (.if_icmp .lt 6, 3) := by decide +kernel
theorem dX10_odds_63 : decode cX10_odds 63 = .ok (.iinc 4 1, 3) := by decide +kernel
theorem dX10_odds_66 : decode cX10_odds 66 = .ok (.iinc 5 1, 3) := by decide +kernel
theorem dX10_odds_69 : decode cX10_odds 69 = .ok (.goto (-30), 3) := by decide +kernel
theorem dX10_odds_72 : decode cX10_odds 72 = .ok (.iload 4, 2) := by decide +kernel
theorem dX10_odds_74 : decode cX10_odds 74 = .ok (.bipush 20, 2) := by decide +kernel
theorem dX10_odds_76 : decode cX10_odds 76 = .ok (.invokestatic 259, 3) := by decide +kernel
theorem dX10_odds_79 : decode cX10_odds 79 = .ok (.istore 5, 2) := by decide +kernel
theorem dX10_odds_81 : decode cX10_odds 81 = .ok (.iload_n 3, 1) := by decide +kernel
theorem dX10_odds_82 : decode cX10_odds 82 = .ok (.ifCond .ne 11, 3) := by decide +kernel
theorem dX10_odds_85 : decode cX10_odds 85 = .ok (.iload 4, 2) := by decide +kernel
theorem dX10_odds_87 : decode cX10_odds 87 = .ok (.iload 5, 2) := by decide +kernel
theorem dX10_odds_89 : decode cX10_odds 89 = .ok (.idiv, 1) := by decide +kernel
theorem dX10_odds_90 : decode cX10_odds 90 = .ok (.goto 8, 3) := by decide +kernel
theorem dX10_odds_93 : decode cX10_odds 93 = .ok (.bipush 20, 2) := by decide +kernel
theorem dX10_odds_95 : decode cX10_odds 95 = .ok (.iload 5, 2) := by decide +kernel
theorem dX10_odds_97 : decode cX10_odds 97 = .ok (.idiv, 1) := by decide +kernel
theorem dX10_odds_98 : decode cX10_odds 98 = .ok (.ireturn, 1) := by decide +kernel
theorem dX10_seed_0 : decode cX10_seed 0 = .ok (.aload_n 0, 1) := by decide +kernel
theorem dX10_seed_1 : decode cX10_seed 1 = .ok (.getfield 10, 3) := by decide +kernel
theorem dX10_seed_4 : decode cX10_seed 4 = .ok (.getfield 262, 3) := by decide +kernel
theorem dX10_seed_7 : decode cX10_seed 7 = .ok (.istore_n 2, 1) := by decide +kernel
theorem dX10_seed_8 : decode cX10_seed 8 = .ok (.aload_n 0, 1) := by decide +kernel
theorem dX10_seed_9 : decode cX10_seed 9 = .ok (.getfield 10, 3) := by decide +kernel
theorem dX10_seed_12 : decode cX10_seed 12 = .ok (.iload_n 1, 1) := by decide +kernel
theorem dX10_seed_13 : decode cX10_seed 13 = .ok (.putfield 262, 3) := by decide +kernel
theorem dX10_seed_16 : decode cX10_seed 16 = .ok (.iload_n 2, 1) := by decide +kernel
theorem dX10_seed_17 : decode cX10_seed 17 = .ok (.ireturn, 1) := by decide +kernel
theorem dX10_voice_0 : decode cX10_voice 0 = .ok (.aload_n 0, 1) := by decide +kernel
theorem dX10_voice_1 : decode cX10_voice 1 = .ok (.iload_n 1, 1) := by decide +kernel
theorem dX10_voice_2 : decode cX10_voice 2 = .ok (.invokevirtual 112, 3) := by decide +kernel
theorem dX10_voice_5 : decode cX10_voice 5 = .ok (.ifCond .ne 11, 3) := by decide +kernel
theorem dX10_voice_8 : decode cX10_voice 8 = .ok (.iload_n 2, 1) := by decide +kernel
theorem dX10_voice_9 : decode cX10_voice 9 = .ok (.iconst 3, 1) := by decide +kernel
theorem dX10_voice_10 : decode cX10_voice 10 = .ok (.invokestatic 58, 3) := by decide +kernel
theorem dX10_voice_13 : decode cX10_voice 13 = .ok (.ifCond .eq 9, 3) := by decide +kernel
theorem dX10_voice_16 : decode cX10_voice 16 = .ok (.aload_n 0, 1) := by decide +kernel
theorem dX10_voice_17 : decode cX10_voice 17 = .ok (.iconst 1, 1) := by decide +kernel
theorem dX10_voice_18 : decode cX10_voice 18 = .ok (.invokevirtual 62, 3) := by decide +kernel
theorem dX10_voice_21 : decode cX10_voice 21 = .ok (.ireturn, 1) := by decide +kernel
theorem dX10_voice_22 : decode cX10_voice 22 = .ok (.aload_n 0, 1) := by decide +kernel
theorem dX10_voice_23 : decode cX10_voice 23 = .ok (.getfield 35, 3) := by decide +kernel
theorem dX10_voice_26 : decode cX10_voice 26 = .ok (.iload_n 1, 1) := by decide +kernel
theorem dX10_voice_27 : decode cX10_voice 27 = .ok (.aload_n 0, 1) := by decide +kernel
theorem dX10_voice_28 : decode cX10_voice 28 = .ok (.getfield 10, 3) := by decide +kernel
theorem dX10_voice_31 : decode cX10_voice 31 = .ok (.getfield 66, 3) := by decide +kernel
theorem dX10_voice_34 : decode cX10_voice 34 = .ok (.getfield 115, 3) := by decide +kernel
theorem dX10_voice_37 : decode cX10_voice 37 = .ok (.iload_n 1, 1) := by decide +kernel
theorem dX10_voice_38 : decode cX10_voice 38 = .ok (.iaload, 1) := by decide +kernel
theorem dX10_voice_39 : decode cX10_voice 39 = .ok (.aload_n 0, 1) := by decide +kernel
theorem dX10_voice_40 : decode cX10_voice 40 = .ok (.getfield 10, 3) := by decide +kernel
theorem dX10_voice_43 : decode cX10_voice 43 = .ok (.getfield 66, 3) := by decide +kernel
theorem dX10_voice_46 : decode cX10_voice 46 = .ok (.getfield 118, 3) := by decide +kernel
theorem dX10_voice_49 : decode cX10_voice 49 = .ok (.iload_n 1, 1) := by decide +kernel
theorem dX10_voice_50 : decode cX10_voice 50 = .ok (.iaload, 1) := by decide +kernel
theorem dX10_voice_51 : decode cX10_voice 51 = .ok (.iload_n 2, 1) := by decide +kernel
theorem dX10_voice_52 : decode cX10_voice 52 = .ok (.iload_n 3, 1) := by decide +kernel
theorem dX10_voice_53 : decode cX10_voice 53 = .ok (.invokevirtual 265, 3) := by decide +kernel
theorem dX10_voice_56 : decode cX10_voice 56 = .ok (.ireturn, 1) := by decide +kernel
theorem dX10_trace_0 : decode cX10_trace 0 = .ok (.aload_n 0, 1) := by decide +kernel
theorem dX10_trace_1 : decode cX10_trace 1 = .ok (.getfield 35, 3) := by decide +kernel
theorem dX10_trace_4 : decode cX10_trace 4 = .ok (.getfield 269, 3) := by decide +kernel
theorem dX10_trace_7 : decode cX10_trace 7 = .ok (.iload_n 1, 1) := by decide +kernel
theorem dX10_trace_8 : decode cX10_trace 8 = .ok (.invokevirtual 272, 3) := by decide +kernel
theorem dX10_trace_11 : decode cX10_trace 11 = .ok (.ifCond .ne 9, 3) := by decide +kernel
theorem dX10_trace_14 : decode cX10_trace 14 = .ok (.aload_n 0, 1) := by decide +kernel
theorem dX10_trace_15 : decode cX10_trace 15 = .ok (.iconst 2, 1) := by decide +kernel
theorem dX10_trace_16 : decode cX10_trace 16 = .ok (.invokevirtual 62, 3) := by decide +kernel
theorem dX10_trace_19 : decode cX10_trace 19 = .ok (.ireturn, 1) := by decide +kernel
theorem dX10_trace_20 : decode cX10_trace 20 = .ok (.aload_n 0, 1) := by decide +kernel
theorem dX10_trace_21 : decode cX10_trace 21 = .ok (.getfield 35, 3) := by decide +kernel
theorem dX10_trace_24 : decode cX10_trace 24 = .ok (.getfield 269, 3) := by decide +kernel
theorem dX10_trace_27 : decode cX10_trace 27 = .ok (.iload_n 1, 1) := by decide +kernel
theorem dX10_trace_28 : decode cX10_trace 28 = .ok (.invokevirtual 275, 3) := by decide +kernel
theorem dX10_trace_31 : decode cX10_trace 31 = .ok (.ireturn, 1) := by decide +kernel
theorem dX10_sheet_0 : decode cX10_sheet 0 = .ok (.iload_n 1, 1) := by decide +kernel
theorem dX10_sheet_1 : decode cX10_sheet 1 = .ok (.iconst 3, 1) := by decide +kernel
theorem dX10_sheet_2 : decode cX10_sheet 2 = .ok (.invokestatic 58, 3) := by decide +kernel
theorem dX10_sheet_5 : decode cX10_sheet 5 = .ok (.ifCond .ne 25, 3) := by decide +kernel
theorem dX10_sheet_8 : decode cX10_sheet 8 = .ok (.iload_n 2, 1) := by decide +kernel
theorem dX10_sheet_9 : decode cX10_sheet 9 = .ok (.ifCond .eq 27, 3) := by decide +kernel
theorem dX10_sheet_12 : decode cX10_sheet 12 = .ok (.iload_n 2, 1) := by decide +kernel
theorem dX10_sheet_13 : decode cX10_sheet 13 = .ok (.bipush 8, 2) := by decide +kernel
theorem dX10_sheet_15 : decode cX10_sheet 15 = .ok (.if_icmp .eq 21, 3) := by decide +kernel
theorem dX10_sheet_18 : decode cX10_sheet 18 = .ok (.iload_n 2, 1) := by decide +kernel
theorem dX10_sheet_19 : decode cX10_sheet 19 = .ok (.bipush 16, 2) := by decide +kernel
theorem dX10_sheet_21 : decode cX10_sheet 21 = .ok (.if_icmp .eq 15, 3) := by decide +kernel
theorem dX10_sheet_24 : decode cX10_sheet 24 = .ok (.iload_n 2, 1) := by decide +kernel
theorem dX10_sheet_25 : decode cX10_sheet 25 = .ok (.bipush 32, 2) := by decide +kernel
theorem dX10_sheet_27 : decode cX10_sheet 27 = .ok (.if_icmp .eq 9, 3) := by decide +kernel
theorem dX10_sheet_30 : decode cX10_sheet 30 = .ok (.aload_n 0, 1) := by decide +kernel
theorem dX10_sheet_31 : decode cX10_sheet 31 = .ok (.iconst 1, 1) := by decide +kernel
theorem dX10_sheet_32 : decode cX10_sheet 32 = .ok (.invokevirtual 62, 3) := by decide +kernel
theorem dX10_sheet_35 : decode cX10_sheet 35 = .ok (.ireturn, 1) := by decide +kernel
theorem dX10_sheet_36 : decode cX10_sheet 36 = .ok (.iload_n 2, 1) := by decide +kernel
theorem dX10_sheet_37 : decode cX10_sheet 37 = .ok (.ifCond .eq 13, 3) := by decide +kernel
theorem dX10_sheet_40 : decode cX10_sheet 40 = .ok (.iload_n 3, 1) := by decide +kernel
theorem dX10_sheet_41 : decode cX10_sheet 41 = .ok (.ifCond .ge 9, 3) := by decide +kernel
theorem dX10_sheet_44 : decode cX10_sheet 44 = .ok (.aload_n 0, 1) := by decide +kernel
theorem dX10_sheet_45 : decode cX10_sheet 45 = .ok (.iconst 3, 1) := by decide +kernel
theorem dX10_sheet_46 : decode cX10_sheet 46 = .ok (.invokevirtual 62, 3) := by decide +kernel
theorem dX10_sheet_49 : decode cX10_sheet 49 = .ok (.ireturn, 1) := by decide +kernel
theorem dX10_sheet_50 : decode cX10_sheet 50 = .ok (.iload_n 2, 1) := by decide +kernel
theorem dX10_sheet_51 : decode cX10_sheet 51 = .ok (.ifCond .eq 15, 3) := by decide +kernel
theorem dX10_sheet_54 : decode cX10_sheet 54 = .ok (.iload_n 3, 1) := by decide +kernel
theorem dX10_sheet_55 : decode cX10_sheet 55 = .ok (.bipush 40, 2) := by decide +kernel
theorem dX10_sheet_57 : decode cX10_sheet 57 = .ok (.if_icmp .le 9, 3) := by decide +kernel
theorem dX10_sheet_60 : decode cX10_sheet 60 = .ok (.aload_n 0, 1) := by decide +kernel
theorem dX10_sheet_61 : decode cX10_sheet 61 = .ok (.iconst 1, 1) := by decide +kernel
theorem dX10_sheet_62 : decode cX10_sheet 62 = .ok (.invokevirtual 62, 3) := by decide +kernel
theorem dX10_sheet_65 : decode cX10_sheet 65 = .ok (.ireturn, 1) := by decide +kernel
theorem dX10_sheet_66 : decode cX10_sheet 66 = .ok (.aload_n 0, 1) := by decide +kernel
theorem dX10_sheet_67 : decode cX10_sheet 67 = .ok (.getfield 48, 3) := by decide +kernel
theorem dX10_sheet_70 : decode cX10_sheet 70 = .ok (.iload_n 1, 1) := by decide +kernel
theorem dX10_sheet_71 : decode cX10_sheet 71 = .ok (.aaload, 1) := by decide +kernel
theorem dX10_sheet_72 : decode cX10_sheet 72 = .ok (.iload_n 2, 1) := by decide +kernel
theorem dX10_sheet_73 : decode cX10_sheet 73 = .ok (.iload_n 2, 1) := by decide +kernel
theorem dX10_sheet_74 : decode cX10_sheet 74 = .ok (.ifCond .ne 7, 3) := by decide +kernel
theorem dX10_sheet_77 : decode cX10_sheet 77 = .ok (.iconst 0, 1) := by decide +kernel
theorem dX10_sheet_78 : decode cX10_sheet 78 = .ok (.goto 4, 3) := by decide +kernel
theorem dX10_sheet_81 : decode cX10_sheet 81 = .ok (.iload_n 3, 1) := by decide +kernel
theorem dX10_sheet_82 : decode cX10_sheet 82 = .ok (.invokevirtual 278, 3) := by decide +kernel
theorem dX10_sheet_85 : decode cX10_sheet 85 = .ok (.iconst 1, 1) := by decide +kernel
theorem dX10_sheet_86 : decode cX10_sheet 86 = .ok (.ireturn, 1) := by decide +kernel
theorem dX10_put_0 : decode cX10_put 0 = .ok (.iload_n 1, 1) := by decide +kernel
theorem dX10_put_1 : decode cX10_put 1 = .ok (.iconst 3, 1) := by decide +kernel
theorem dX10_put_2 : decode cX10_put 2 = .ok (.invokestatic 58, 3) := by decide +kernel
theorem dX10_put_5 : decode cX10_put 5 = .ok (.ifCond .eq 9, 3) := by decide +kernel
theorem dX10_put_8 : decode cX10_put 8 = .ok (.aload_n 0, 1) := by decide +kernel
theorem dX10_put_9 : decode cX10_put 9 = .ok (.iconst 1, 1) := by decide +kernel
theorem dX10_put_10 : decode cX10_put 10 = .ok (.invokevirtual 62, 3) := by decide +kernel
theorem dX10_put_13 : decode cX10_put 13 = .ok (.ireturn, 1) := by decide +kernel
theorem dX10_put_14 : decode cX10_put 14 = .ok (.aload_n 0, 1) := by decide +kernel
theorem dX10_put_15 : decode cX10_put 15 = .ok (.getfield 48, 3) := by decide +kernel
theorem dX10_put_18 : decode cX10_put 18 = .ok (.iload_n 1, 1) := by decide +kernel
theorem dX10_put_19 : decode cX10_put 19 = .ok (.aaload, 1) := by decide +kernel
theorem dX10_put_20 : decode cX10_put 20 = .ok (.invokevirtual 248, 3) := by decide +kernel
theorem dX10_put_23 : decode cX10_put 23 = .ok (.ifCond .eq 9, 3) := by decide +kernel
theorem dX10_put_26 : decode cX10_put 26 = .ok (.aload_n 0, 1) := by decide +kernel
theorem dX10_put_27 : decode cX10_put 27 = .ok (.iconst 2, 1) := by decide +kernel
theorem dX10_put_28 : decode cX10_put 28 = .ok (.invokevirtual 62, 3) := by decide +kernel
theorem dX10_put_31 : decode cX10_put 31 = .ok (.ireturn, 1) := by decide +kernel
theorem dX10_put_32 : decode cX10_put 32 = .ok (.aload_n 0, 1) := by decide +kernel
theorem dX10_put_33 : decode cX10_put 33 = .ok (.getfield 48, 3) := by decide +kernel
theorem dX10_put_36 : decode cX10_put 36 = .ok (.iload_n 1, 1) := by decide +kernel
theorem dX10_put_37 : decode cX10_put 37 = .ok (.aaload, 1) := by decide +kernel
theorem dX10_put_38 : decode cX10_put 38 = .ok (.getfield 252, 3) := by decide +kernel
theorem dX10_put_41 : decode cX10_put 41 = .ok (.iload_n 2, 1) := by decide +kernel
theorem dX10_put_42 : decode cX10_put 42 = .ok (.invokevirtual 272, 3) := by decide +kernel
theorem dX10_put_45 : decode cX10_put 45 = .ok (.ifCond .ne 9, 3) := by decide +kernel
theorem dX10_put_48 : decode cX10_put 48 = .ok (.aload_n 0, 1) := by decide +kernel
theorem dX10_put_49 : decode cX10_put 49 = .ok (.iconst 1, 1) := by decide +kernel
theorem dX10_put_50 : decode cX10_put 50 = .ok (.invokevirtual 62, 3) := by decide +kernel
theorem dX10_put_53 : decode cX10_put 53 = .ok (.ireturn, 1) := by decide +kernel
theorem dX10_put_54 : decode cX10_put 54 = .ok (.aload_n 0, 1) := by decide +kernel
theorem dX10_put_55 : decode cX10_put 55 = .ok (.getfield 48, 3) := by decide +kernel
theorem dX10_put_58 : decode cX10_put 58 = .ok (.iload_n 1, 1) := by decide +kernel
theorem dX10_put_59 : decode cX10_put 59 = .ok (.aaload, 1) := by decide +kernel
theorem dX10_put_60 : decode cX10_put 60 = .ok (.iload_n 2, 1) := by decide +kernel
theorem dX10_put_61 : decode cX10_put 61 = .ok (.iload_n 3, 1) := by decide +kernel
theorem dX10_put_62 : decode cX10_put 62 = .ok (.invokevirtual 281, 3) := by decide +kernel
theorem dX10_put_65 : decode cX10_put 65 = .ok (.iconst 1, 1) := by decide +kernel
theorem dX10_put_66 : decode cX10_put 66 = .ok (.ireturn, 1) := by decide +kernel
theorem dX10_move_0 : decode cX10_move 0 = .ok (.iload_n 1, 1) := by decide +kernel
theorem dX10_move_1 : decode cX10_move 1 = .ok (.iconst 3, 1) := by decide +kernel
theorem dX10_move_2 : decode cX10_move 2 = .ok (.invokestatic 58, 3) := by decide +kernel
theorem dX10_move_5 : decode cX10_move 5 = .ok (.ifCond .ne 11, 3) := by decide +kernel
theorem dX10_move_8 : decode cX10_move 8 = .ok (.iload_n 3, 1) := by decide +kernel
theorem dX10_move_9 : decode cX10_move 9 = .ok (.iconst 3, 1) := by decide +kernel
theorem dX10_move_10 : decode cX10_move 10 = .ok (.invokestatic 58, 3) := by decide +kernel
theorem dX10_move_13 : decode cX10_move 13 = .ok (.ifCond .eq 9, 3) := by decide +kernel
theorem dX10_move_16 : decode cX10_move 16 = .ok (.aload_n 0, 1) := by decide +kernel
theorem dX10_move_17 : decode cX10_move 17 = .ok (.iconst 1, 1) := by decide +kernel
theorem dX10_move_18 : decode cX10_move 18 = .ok (.invokevirtual 62, 3) := by decide +kernel
theorem dX10_move_21 : decode cX10_move 21 = .ok (.ireturn, 1) := by decide +kernel
theorem dX10_move_22 : decode cX10_move 22 = .ok (.aload_n 0, 1) := by decide +kernel
theorem dX10_move_23 : decode cX10_move 23 = .ok (.getfield 48, 3) := by decide +kernel
theorem dX10_move_26 : decode cX10_move 26 = .ok (.iload_n 1, 1) := by decide +kernel
theorem dX10_move_27 : decode cX10_move 27 = .ok (.aaload, 1) := by decide +kernel
theorem dX10_move_28 : decode cX10_move 28 = .ok (.astore 6, 2) := by decide +kernel
theorem dX10_move_30 : decode cX10_move 30 = .ok (.aload_n 0, 1) := by decide +kernel
theorem dX10_move_31 : decode cX10_move 31 = .ok (.getfield 48, 3) := by decide +kernel
theorem dX10_move_34 : decode cX10_move 34 = .ok (.iload_n 3, 1) := by decide +kernel
theorem dX10_move_35 : decode cX10_move 35 = .ok (.aaload, 1) := by decide +kernel
theorem dX10_move_36 : decode cX10_move 36 = .ok (.astore 7, 2) := by decide +kernel
theorem dX10_move_38 : decode cX10_move 38 = .ok (.aload 6, 2) := by decide +kernel
theorem dX10_move_40 : decode cX10_move 40 = .ok (.invokevirtual 248, 3) := by decide +kernel
theorem dX10_move_43 : decode cX10_move 43 = .ok (.ifCond .ne 11, 3) := by decide +kernel
theorem dX10_move_46 : decode cX10_move 46 = .ok (.aload 7, 2) := by decide +kernel
theorem dX10_move_48 : decode cX10_move 48 = .ok (.invokevirtual 248, 3) := by decide +kernel
theorem dX10_move_51 : decode cX10_move 51 = .ok (.ifCond .eq 9, 3) := by decide +kernel
theorem dX10_move_54 : decode cX10_move 54 = .ok (.aload_n 0, 1) := by decide +kernel
theorem dX10_move_55 : decode cX10_move 55 = .ok (.iconst 2, 1) := by decide +kernel
theorem dX10_move_56 : decode cX10_move 56 = .ok (.invokevirtual 62, 3) := by decide +kernel
theorem dX10_move_59 : decode cX10_move 59 = .ok (.ireturn, 1) := by decide +kernel
theorem dX10_move_60 : decode cX10_move 60 = .ok (.aload 6, 2) := by decide +kernel
theorem dX10_move_62 : decode cX10_move 62 = .ok (.getfield 284, 3) := by decide +kernel
theorem dX10_move_65 : decode cX10_move 65 = .ok (.aload 7, 2) := by decide +kernel
theorem dX10_move_67 : decode cX10_move 67 = .ok (.getfield 284, 3) := by decide +kernel
theorem dX10_move_70 : decode cX10_move 70 = .ok (.if_icmp .eq 9, 3) := by decide +kernel
theorem dX10_move_73 : decode cX10_move 73 = .ok (.aload_n 0, 1) := by decide +kernel
theorem dX10_move_74 : decode cX10_move 74 = .ok (.iconst 5, 1) := by decide +kernel
theorem dX10_move_75 : decode cX10_move 75 = .ok (.invokevirtual 62, 3) := by decide +kernel
theorem dX10_move_78 : decode cX10_move 78 = .ok (.ireturn, 1) := by decide +kernel
theorem dX10_move_79 : decode cX10_move 79 = .ok (.aload 6, 2) := by decide +kernel
theorem dX10_move_81 : decode cX10_move 81 = .ok (.getfield 252, 3) := by decide +kernel
theorem dX10_move_84 : decode cX10_move 84 = .ok (.iload_n 2, 1) := by decide +kernel
theorem dX10_move_85 : decode cX10_move 85 = .ok (.iload 5, 2) := by decide +kernel
theorem dX10_move_87 : decode cX10_move 87 = .ok (.invokevirtual 287, 3) := by decide +kernel
theorem dX10_move_90 : decode cX10_move 90 = .ok (.ifCond .eq 18, 3) := by decide +kernel
theorem dX10_move_93 : decode cX10_move 93 = .ok (.aload 7, 2) := by decide +kernel
theorem dX10_move_95 : decode cX10_move 95 = .ok (.getfield 252, 3) := by decide +kernel
theorem dX10_move_98 : decode cX10_move 98 = .ok (.iload 4, 2) := by decide +kernel
theorem dX10_move_100 : decode cX10_move 100 = .ok (.iload 5, 2) := by decide +kernel
theorem dX10_move_102 : decode cX10_move 102 = .ok (.invokevirtual 287, 3) := by decide +kernel
theorem dX10_move_105 : decode cX10_move 105 = .ok (.ifCond .ne 9, 3) := by decide +kernel
theorem dX10_move_108 : decode cX10_move 108 = .ok (.aload_n 0, 1) := by decide +kernel
theorem dX10_move_109 : decode cX10_move 109 = .ok (.iconst 1, 1) := by decide +kernel
theorem dX10_move_110 : decode cX10_move 110 = .ok (.invokevirtual 62, 3) := by decide +kernel
theorem dX10_move_113 : decode cX10_move 113 = .ok (.ireturn, 1) := by decide +kernel
theorem dX10_move_114 : decode cX10_move 114 = .ok (.aload 6, 2) := by decide +kernel
theorem dX10_move_116 : decode cX10_move 116 = .ok (.getfield 252, 3) := by decide +kernel
theorem dX10_move_119 : decode cX10_move 119 = .ok (.getfield 290, 3) := by decide +kernel
theorem dX10_move_122 : decode cX10_move 122 = .ok (.iload_n 2, 1) := by decide +kernel
theorem dX10_move_123 : decode cX10_move 123 = .ok (.aload 7, 2) := by decide +kernel
theorem dX10_move_125 : decode cX10_move 125 = .ok (.getfield 252, 3) := by decide +kernel
theorem dX10_move_128 : decode cX10_move 128 = .ok (.getfield 290, 3) := by decide +kernel
theorem dX10_move_131 : decode cX10_move 131 = .ok (.iload 4, 2) := by decide +kernel
theorem dX10_move_133 : decode cX10_move 133 = .ok (.iload 5, 2) := by decide +kernel
theorem dX10_move_135 : decode cX10_move 135 = .ok (.invokestatic 293, 3) := by decide +kernel
theorem dX10_move_138 : decode cX10_move 138 = .ok (.iload 5, 2) := by decide +kernel
theorem dX10_move_140 : decode cX10_move 140 = .ok (.ireturn, 1) := by decide +kernel
theorem dX10_lies_0 : decode cX10_lies 0 = .ok (.iload_n 1, 1) := by decide +kernel
theorem dX10_lies_1 : decode cX10_lies 1 = .ok (.iconst 3, 1) := by decide +kernel
theorem dX10_lies_2 : decode cX10_lies 2 = .ok (.invokestatic 58, 3) := by decide +kernel
theorem dX10_lies_5 : decode cX10_lies 5 = .ok (.ifCond .eq 9, 3) := by decide +kernel
theorem dX10_lies_8 : decode cX10_lies 8 = .ok (.aload_n 0, 1) := by decide +kernel
theorem dX10_lies_9 : decode cX10_lies 9 = .ok (.iconst 1, 1) := by decide +kernel
theorem dX10_lies_10 : decode cX10_lies 10 = .ok (.invokevirtual 62, 3) := by decide +kernel
theorem dX10_lies_13 : decode cX10_lies 13 = .ok (.ireturn, 1) := by decide +kernel
theorem dX10_lies_14 : decode cX10_lies 14 = .ok (.aload_n 0, 1) := by decide +kernel
theorem dX10_lies_15 : decode cX10_lies 15 = .ok (.getfield 48, 3) := by decide +kernel
theorem dX10_lies_18 : decode cX10_lies 18 = .ok (.iload_n 1, 1) := by decide +kernel
theorem dX10_lies_19 : decode cX10_lies 19 = .ok (.aaload, 1) := by decide +kernel
theorem dX10_lies_20 : decode cX10_lies 20 = .ok (.invokevirtual 248, 3) := by decide +kernel
theorem dX10_lies_23 : decode cX10_lies 23 = .ok (.ifCond .eq 9, 3) := by decide +kernel
theorem dX10_lies_26 : decode cX10_lies 26 = .ok (.aload_n 0, 1) := by decide +kernel
theorem dX10_lies_27 : decode cX10_lies 27 = .ok (.iconst 2, 1) := by decide +kernel
theorem dX10_lies_28 : decode cX10_lies 28 = .ok (.invokevirtual 62, 3) := by decide +kernel
theorem dX10_lies_31 : decode cX10_lies 31 = .ok (.ireturn, 1) := by decide +kernel
theorem dX10_lies_32 : decode cX10_lies 32 = .ok (.aload_n 0, 1) := by decide +kernel
theorem dX10_lies_33 : decode cX10_lies 33 = .ok (.getfield 48, 3) := by decide +kernel
theorem dX10_lies_36 : decode cX10_lies 36 = .ok (.iload_n 1, 1) := by decide +kernel
theorem dX10_lies_37 : decode cX10_lies 37 = .ok (.aaload, 1) := by decide +kernel
theorem dX10_lies_38 : decode cX10_lies 38 = .ok (.getfield 252, 3) := by decide +kernel
theorem dX10_lies_41 : decode cX10_lies 41 = .ok (.astore_n 2, 1) := by decide +kernel
theorem dX10_lies_42 : decode cX10_lies 42 = .ok (.iconst 0, 1) := by decide +kernel
theorem dX10_lies_43 : decode cX10_lies 43 = .ok (.istore_n 3, 1) := by decide +kernel
theorem dX10_lies_44 : decode cX10_lies 44 = .ok (.iload_n 3, 1) := by decide +kernel
theorem dX10_lies_45 : decode cX10_lies 45 = .ok (.bipush 16, 2) := by decide +kernel
theorem dX10_lies_47 : decode cX10_lies 47 = .ok (.if_icmp .ge 49, 3) := by decide +kernel
theorem dX10_lies_50 : decode cX10_lies 50 = .ok (.aload_n 2, 1) := by decide +kernel
theorem dX10_lies_51 : decode cX10_lies 51 = .ok (.iload_n 3, 1) := by decide +kernel
theorem dX10_lies_52 : decode cX10_lies 52 = .ok (.invokevirtual 272, 3) := by decide +kernel
theorem dX10_lies_55 : decode cX10_lies 55 = .ok (.ifCond .eq 16, 3) := by decide +kernel
theorem dX10_lies_58 : decode cX10_lies 58 = .ok (.aload_n 2, 1) := by decide +kernel
theorem dX10_lies_59 : decode cX10_lies 59 = .ok (.iload_n 3, 1) := by decide +kernel
theorem dX10_lies_60 : decode cX10_lies 60 = .ok (.invokevirtual 275, 3) := by decide +kernel
theorem dX10_lies_63 : decode cX10_lies 63 = .ok (.bipush 99, 2) := by decide +kernel
theorem dX10_lies_65 : decode cX10_lies 65 = .ok (.invokestatic 58, 3) := by decide +kernel
theorem dX10_lies_68 : decode cX10_lies 68 = .ok (.ifCond .eq 5, 3) := by decide +kernel
theorem dX10_lies_71 : decode cX10_lies 71 = .ok (.iload_n 3, 1) := by decide +kernel
theorem dX10_lies_72 : decode cX10_lies 72 = .ok (.ireturn, 1) := by decide +kernel
theorem dX10_lies_73 : decode cX10_lies 73 = .ok (.aload_n 0, 1) := by decide +kernel
theorem dX10_lies_74 : decode cX10_lies 74 = .ok (.getfield 10, 3) := by decide +kernel
theorem dX10_lies_77 : decode cX10_lies 77 = .ok (.getfield 66, 3) := by decide +kernel
theorem dX10_lies_80 : decode cX10_lies 80 = .ok (.getfield 73, 3) := by decide +kernel
theorem dX10_lies_83 : decode cX10_lies 83 = .ok (.iload_n 3, 1) := by decide +kernel
theorem dX10_lies_84 : decode cX10_lies 84 = .ok (.aload_n 2, 1) := by decide +kernel
theorem dX10_lies_85 : decode cX10_lies 85 = .ok (.iload_n 3, 1) := by decide +kernel
theorem dX10_lies_86 : decode cX10_lies 86 = .ok (.invokevirtual 275, 3) := by decide +kernel
theorem dX10_lies_89 : decode cX10_lies 89 = .ok (.iastore, 1) := by decide +kernel
theorem dX10_lies_90 : decode cX10_lies 90 = .ok (.iinc 3 1, 3) := by decide +kernel
theorem dX10_lies_93 : decode cX10_lies 93 = .ok (.goto (-49), 3) := by decide +kernel
theorem dX10_lies_96 : decode cX10_lies 96 = .ok (.bipush 16, 2) := by decide +kernel
theorem dX10_lies_98 : decode cX10_lies 98 = .ok (.ireturn, 1) := by decide +kernel
theorem dX10_judge_0 : decode cX10_judge 0 = .ok (.iload_n 1, 1) := by decide +kernel
theorem dX10_judge_1 : decode cX10_judge 1 = .ok (.iconst 3, 1) := by decide +kernel
theorem dX10_judge_2 : decode cX10_judge 2 = .ok (.invokestatic 58, 3) := by decide +kernel
theorem dX10_judge_5 : decode cX10_judge 5 = .ok (.ifCond .eq 9, 3) := by decide +kernel
theorem dX10_judge_8 : decode cX10_judge 8 = .ok (.aload_n 0, 1) := by decide +kernel
theorem dX10_judge_9 : decode cX10_judge 9 = .ok (.iconst 1, 1) := by decide +kernel
theorem dX10_judge_10 : decode cX10_judge 10 = .ok (.invokevirtual 62, 3) := by decide +kernel
theorem dX10_judge_13 : decode cX10_judge 13 = .ok (.ireturn, 1) := by decide +kernel
theorem dX10_judge_14 : decode cX10_judge 14 = .ok (.aload_n 0, 1) := by decide +kernel
theorem dX10_judge_15 : decode cX10_judge 15 = .ok (.getfield 48, 3) := by decide +kernel
theorem dX10_judge_18 : decode cX10_judge 18 = .ok (.iload_n 1, 1) := by decide +kernel
theorem dX10_judge_19 : decode cX10_judge 19 = .ok (.aaload, 1) := by decide +kernel
theorem dX10_judge_20 : decode cX10_judge 20 = .ok (.invokevirtual 248, 3) := by decide +kernel
theorem dX10_judge_23 : decode cX10_judge 23 = .ok (.ifCond .eq 9, 3) := by decide +kernel
theorem dX10_judge_26 : decode cX10_judge 26 = .ok (.aload_n 0, 1) := by decide +kernel
theorem dX10_judge_27 : decode cX10_judge 27 = .ok (.iconst 2, 1) := by decide +kernel
theorem dX10_judge_28 : decode cX10_judge 28 = .ok (.invokevirtual 62, 3) := by decide +kernel
theorem dX10_judge_31 : decode cX10_judge 31 = .ok (.ireturn, 1) := by decide +kernel
theorem dX10_judge_32 : decode cX10_judge 32 = .ok (.aload_n 0, 1) := by decide +kernel
theorem dX10_judge_33 : decode cX10_judge 33 = .ok (.getfield 48, 3) := by decide +kernel
theorem dX10_judge_36 : decode cX10_judge 36 = .ok (.iload_n 1, 1) := by decide +kernel
theorem dX10_judge_37 : decode cX10_judge 37 = .ok (.aaload, 1) := by decide +kernel
theorem dX10_judge_38 : decode cX10_judge 38 = .ok (.getfield 252, 3) := by decide +kernel
theorem dX10_judge_41 : decode cX10_judge 41 = .ok (.astore_n 2, 1) := by decide +kernel
theorem dX10_judge_42 : decode cX10_judge 42 = .ok (.aload_n 0, 1) := by decide +kernel
theorem dX10_judge_43 : decode cX10_judge 43 = .ok (.getfield 10, 3) := by decide +kernel
theorem dX10_judge_46 : decode cX10_judge 46 = .ok (.getfield 66, 3) := by decide +kernel
theorem dX10_judge_49 : decode cX10_judge 49 = .ok (.getfield 105, 3) := by decide +kernel
theorem dX10_judge_52 : decode cX10_judge 52 = .ok (.istore_n 3, 1) := by decide +kernel
theorem dX10_judge_53 : decode cX10_judge 53 = .ok (.iconst 0, 1) := by decide +kernel
theorem dX10_judge_54 : decode cX10_judge 54 = .ok (.istore 4, 2) := by decide +kernel
theorem dX10_judge_56 : decode cX10_judge 56 = .ok (.iload 4, 2) := by decide +kernel
theorem dX10_judge_58 : decode cX10_judge 58 = .ok (.iload_n 3, 1) := by decide +kernel
theorem dX10_judge_59 : decode cX10_judge 59 = .ok (.if_icmp .ge 43, 3) := by decide +kernel
theorem dX10_judge_62 : decode cX10_judge 62 = .ok (.aload_n 2, 1) := by decide +kernel
theorem dX10_judge_63 : decode cX10_judge 63 = .ok (.iload 4, 2) := by decide +kernel
theorem dX10_judge_65 : decode cX10_judge 65 = .ok (.invokevirtual 272, 3) := by decide +kernel
theorem dX10_judge_68 : decode cX10_judge 68 = .ok (.ifCond .eq 25, 3) := by decide +kernel
theorem dX10_judge_71 : decode cX10_judge 71 = .ok (.aload_n 2, 1) := by decide +kernel
theorem dX10_judge_72 : decode cX10_judge 72 = .ok (.iload 4, 2) := by decide +kernel
theorem dX10_judge_74 : decode cX10_judge 74 = .ok (.invokevirtual 275, 3) := by decide +kernel
theorem dX10_judge_77 : decode cX10_judge 77 = .ok (.aload_n 0, 1) := by decide +kernel
theorem dX10_judge_78 : decode cX10_judge 78 = .ok (.getfield 10, 3) := by decide +kernel
theorem dX10_judge_81 : decode cX10_judge 81 = .ok (.getfield 66, 3) := by decide +kernel
theorem dX10_judge_84 : decode cX10_judge 84 = .ok (.getfield 124, 3) := by decide +kernel
theorem dX10_judge_87 : decode cX10_judge 87 = .ok (.iload 4, 2) := by decide +kernel
theorem dX10_judge_89 : decode cX10_judge 89 = .ok (.iaload, 1) := by decide +kernel
theorem dX10_judge_90 : decode cX10_judge 90 = .ok (.if_icmp .eq 6, 3) := by decide +kernel
theorem dX10_judge_93 : decode cX10_judge 93 = .ok (.iload 4, 2) := by decide +kernel
theorem dX10_judge_95 : decode cX10_judge 95 = .ok (.ireturn, 1) := by decide +kernel
theorem dX10_judge_96 : decode cX10_judge 96 = .ok (.iinc 4 1, 3) := by decide +kernel
theorem dX10_judge_99 : decode cX10_judge 99 = .ok (.goto (-43), 3) := by decide +kernel
theorem dX10_judge_102 : decode cX10_judge 102 = .ok (.aload_n 2, 1) := by decide +kernel
theorem dX10_judge_103 : decode cX10_judge 103 = .ok (.getfield 148, 3) := by decide +kernel
theorem dX10_judge_106 : decode cX10_judge 106 = .ok (.iload_n 3, 1) := by decide +kernel
theorem dX10_judge_107 : decode cX10_judge 107 = .ok (.if_icmp .le 7, 3) := by decide +kernel
theorem dX10_judge_110 : decode cX10_judge 110 = .ok (.iload_n 3, 1) := by decide +kernel
theorem dX10_judge_111 : decode cX10_judge 111 = .ok (.goto 4, 3) := by decide +kernel
theorem dX10_judge_114 : decode cX10_judge 114 = .ok (.iconst (-1), 1) := by decide +kernel
theorem dX10_judge_115 : decode cX10_judge 115 = .ok (.ireturn, 1) := by decide +kernel
theorem dX10_image_0 : decode cX10_image 0 = .ok (.aload_n 0, 1) := by decide +kernel
theorem dX10_image_1 : decode cX10_image 1 = .ok (.getfield 16, 3) := by decide +kernel
theorem dX10_image_4 : decode cX10_image 4 = .ok (.aload_n 0, 1) := by decide +kernel
theorem dX10_image_5 : decode cX10_image 5 = .ok (.getfield 10, 3) := by decide +kernel
theorem dX10_image_8 : decode cX10_image 8 = .ok (.invokevirtual 299, 3) := by decide +kernel
theorem dX10_image_11 : decode cX10_image 11 = .ok (.aload_n 0, 1) := by decide +kernel
theorem dX10_image_12 : decode cX10_image 12 = .ok (.dup, 1) := by decide +kernel
theorem dX10_image_13 : decode cX10_image 13 = .ok (.getfield 301, 3) := by decide +kernel
theorem dX10_image_16 : decode cX10_image 16 = .ok (.iconst 1, 1) := by decide +kernel
theorem dX10_image_17 : decode cX10_image 17 = .ok (.iadd, 1) := by decide +kernel
theorem dX10_image_18 : decode cX10_image 18 = .ok (.putfield 301, 3) := by decide +kernel
theorem dX10_image_21 : decode cX10_image 21 = .ok (.aload_n 0, 1) := by decide +kernel
theorem dX10_image_22 : decode cX10_image 22 = .ok (.getfield 301, 3) := by decide +kernel
theorem dX10_image_25 : decode cX10_image 25 = .ok (.ireturn, 1) := by decide +kernel
theorem dX10_restore_0 : decode cX10_restore 0 = .ok (.aload_n 0, 1) := by decide +kernel
theorem dX10_restore_1 : decode cX10_restore 1 = .ok (.getfield 301, 3) := by decide +kernel
theorem dX10_restore_4 : decode cX10_restore 4 = .ok (.ifCond .ne 9, 3) := by decide +kernel
theorem dX10_restore_7 : decode cX10_restore 7 = .ok (.aload_n 0, 1) := by decide +kernel
theorem dX10_restore_8 : decode cX10_restore 8 = .ok (.iconst 2, 1) := by decide +kernel
theorem dX10_restore_9 : decode cX10_restore 9 = .ok (.invokevirtual 62, 3) := by decide +kernel
theorem dX10_restore_12 : decode cX10_restore 12 = .ok (.ireturn, 1) := by decide +kernel
theorem dX10_restore_13 : decode cX10_restore 13 = .ok (.aload_n 0, 1) := by decide +kernel
theorem dX10_restore_14 : decode cX10_restore 14 = .ok (.getfield 10, 3) := by decide +kernel
theorem dX10_restore_17 : decode cX10_restore 17 = .ok (.aload_n 0, 1) := by decide +kernel
theorem dX10_restore_18 : decode cX10_restore 18 = .ok (.getfield 16, 3) := by decide +kernel
theorem dX10_restore_21 : decode cX10_restore 21 = .ok (.invokevirtual 299, 3) := by decide +kernel
theorem dX10_restore_24 : decode cX10_restore 24 = .ok (.aload_n 0, 1) := by decide +kernel
theorem dX10_restore_25 : decode cX10_restore 25 = .ok (.getfield 10, 3) := by decide +kernel
theorem dX10_restore_28 : decode cX10_restore 28 = .ok (.getfield 66, 3) := by decide +kernel
theorem dX10_restore_31 : decode cX10_restore 31 = .ok (.getfield 187, 3) := by decide +kernel
theorem dX10_restore_34 : decode cX10_restore 34 = .ok (.ireturn, 1) := by decide +kernel
theorem dX10_tell_0 : decode cX10_tell 0 = .ok (.aload_n 0, 1) := by decide +kernel
theorem dX10_tell_1 : decode cX10_tell 1 = .ok (.getfield 10, 3) := by decide +kernel
theorem dX10_tell_4 : decode cX10_tell 4 = .ok (.getfield 304, 3) := by decide +kernel
theorem dX10_tell_7 : decode cX10_tell 7 = .ok (.getfield 148, 3) := by decide +kernel
theorem dX10_tell_10 : decode cX10_tell 10 = .ok (.bipush 20, 2) := by decide +kernel
theorem dX10_tell_12 : decode cX10_tell 12 = .ok (.if_icmp .lt 9, 3) := by decide +kernel
theorem dX10_tell_15 : decode cX10_tell 15 = .ok (.aload_n 0, 1) := by decide +kernel
theorem dX10_tell_16 : decode cX10_tell 16 = .ok (.iconst 4, 1) := by decide +kernel
theorem dX10_tell_17 : decode cX10_tell 17 = .ok (.invokevirtual 62, 3) := by decide +kernel
theorem dX10_tell_20 : decode cX10_tell 20 = .ok (.ireturn, 1) := by decide +kernel
theorem dX10_tell_21 : decode cX10_tell 21 = .ok (.aload_n 0, 1) := by decide +kernel
theorem dX10_tell_22 : decode cX10_tell 22 = .ok (.getfield 10, 3) := by decide +kernel
theorem dX10_tell_25 : decode cX10_tell 25 = .ok (.getfield 304, 3) := by decide +kernel
theorem dX10_tell_28 : decode cX10_tell 28 = .ok (.iload_n 1, 1) := by decide +kernel
theorem dX10_tell_29 : decode cX10_tell 29 = .ok (.invokevirtual 153, 3) := by decide +kernel
theorem dX10_tell_32 : decode cX10_tell 32 = .ok (.aload_n 0, 1) := by decide +kernel
theorem dX10_tell_33 : decode cX10_tell 33 = .ok (.getfield 10, 3) := by decide +kernel
theorem dX10_tell_36 : decode cX10_tell 36 = .ok (.getfield 304, 3) := by decide +kernel
theorem dX10_tell_39 : decode cX10_tell 39 = .ok (.getfield 148, 3) := by decide +kernel
theorem dX10_tell_42 : decode cX10_tell 42 = .ok (.ireturn, 1) := by decide +kernel
theorem dX10_check_0 : decode cX10_check 0 = .ok (.aload_n 0, 1) := by decide +kernel
theorem dX10_check_1 : decode cX10_check 1 = .ok (.aload_n 0, 1) := by decide +kernel
theorem dX10_check_2 : decode cX10_check 2 = .ok (.invokevirtual 208, 3) := by decide +kernel
theorem dX10_check_5 : decode cX10_check 5 = .ok (.aload_n 0, 1) := by decide +kernel
theorem dX10_check_6 : decode cX10_check 6 = .ok (.getfield 10, 3) := by decide +kernel
theorem dX10_check_9 : decode cX10_check 9 = .ok (.getfield 304, 3) := by decide +kernel
theorem dX10_check_12 : decode cX10_check 12 = .ok (.invokevirtual 255, 3) := by decide +kernel
theorem dX10_check_15 : decode cX10_check 15 = .ok (.istore_n 1, 1) := by decide +kernel
theorem dX10_check_16 : decode cX10_check 16 = .ok (.aload_n 0, 1) := by decide +kernel
theorem dX10_check_17 : decode cX10_check 17 = .ok (.getfield 10, 3) := by decide +kernel
theorem dX10_check_20 : decode cX10_check 20 = .ok (.getfield 304, 3) := by decide +kernel
theorem dX10_check_23 : decode cX10_check 23 = .ok (.invokevirtual 161, 3) := by decide +kernel
theorem dX10_check_26 : decode cX10_check 26 = .ok (.iload_n 1, 1) := by decide +kernel
theorem dX10_check_27 : decode cX10_check 27 = .ok (.iconst 1, 1) := by decide +kernel
theorem dX10_check_28 : decode cX10_check 28 = .ok (.iadd, 1) := by decide +kernel
theorem dX10_check_29 : decode cX10_check 29 = .ok (.ireturn, 1) := by decide +kernel
theorem dX10_count_0 : decode cX10_count 0 = .ok (.aload_n 0, 1) := by decide +kernel
theorem dX10_count_1 : decode cX10_count 1 = .ok (.getfield 10, 3) := by decide +kernel
theorem dX10_count_4 : decode cX10_count 4 = .ok (.getfield 66, 3) := by decide +kernel
theorem dX10_count_7 : decode cX10_count 7 = .ok (.astore_n 2, 1) := by decide +kernel
theorem dX10_count_8 : decode cX10_count 8 = .ok (.iload_n 1, 1) := by decide +kernel
theorem dX10_count_9 : decode cX10_count 9 = .ok (.tableswitch 143 0 10 #[59, 64, 69, 74, 79, 84, 89, 102, 113, 124, 135], 59) := by decide +kernel
theorem dX10_count_68 : decode cX10_count 68 = .ok (.aload_n 2, 1) := by decide +kernel
theorem dX10_count_69 : decode cX10_count 69 = .ok (.getfield 105, 3) := by decide +kernel
theorem dX10_count_72 : decode cX10_count 72 = .ok (.ireturn, 1) := by decide +kernel
theorem dX10_count_73 : decode cX10_count 73 = .ok (.aload_n 2, 1) := by decide +kernel
theorem dX10_count_74 : decode cX10_count 74 = .ok (.getfield 187, 3) := by decide +kernel
theorem dX10_count_77 : decode cX10_count 77 = .ok (.ireturn, 1) := by decide +kernel
theorem dX10_count_78 : decode cX10_count 78 = .ok (.aload_n 2, 1) := by decide +kernel
theorem dX10_count_79 : decode cX10_count 79 = .ok (.invokevirtual 205, 3) := by decide +kernel
theorem dX10_count_82 : decode cX10_count 82 = .ok (.ireturn, 1) := by decide +kernel
theorem dX10_count_83 : decode cX10_count 83 = .ok (.aload_n 2, 1) := by decide +kernel
theorem dX10_count_84 : decode cX10_count 84 = .ok (.invokevirtual 212, 3) := by decide +kernel
theorem dX10_count_87 : decode cX10_count 87 = .ok (.ireturn, 1) := by decide +kernel
theorem dX10_count_88 : decode cX10_count 88 = .ok (.aload_n 2, 1) := by decide +kernel
theorem dX10_count_89 : decode cX10_count 89 = .ok (.getfield 94, 3) := by decide +kernel
theorem dX10_count_92 : decode cX10_count 92 = .ok (.ireturn, 1) := by decide +kernel
theorem dX10_count_93 : decode cX10_count 93 = .ok (.aload_n 2, 1) := by decide +kernel
theorem dX10_count_94 : decode cX10_count 94 = .ok (.invokevirtual 307, 3) := by decide +kernel
theorem dX10_count_97 : decode cX10_count 97 = .ok (.ireturn, 1) := by decide +kernel
theorem dX10_count_98 : decode cX10_count 98 = .ok (.aload_n 0, 1) := by decide +kernel
theorem dX10_count_99 : decode cX10_count 99 = .ok (.getfield 10, 3) := by decide +kernel
theorem dX10_count_102 : decode cX10_count 102 = .ok (.getfield 98, 3) := by decide +kernel
theorem dX10_count_105 : decode cX10_count 105 = .ok (.bipush 6, 2) := by decide +kernel
theorem dX10_count_107 : decode cX10_count 107 = .ok (.invokestatic 310, 3) := by decide +kernel
theorem dX10_count_110 : decode cX10_count 110 = .ok (.ireturn, 1) := by decide +kernel
theorem dX10_count_111 : decode cX10_count 111 = .ok (.aload_n 0, 1) := by decide +kernel
theorem dX10_count_112 : decode cX10_count 112 = .ok (.getfield 10, 3) := by decide +kernel
theorem dX10_count_115 : decode cX10_count 115 = .ok (.getfield 144, 3) := by decide +kernel
theorem dX10_count_118 : decode cX10_count 118 = .ok (.getfield 148, 3) := by decide +kernel
theorem dX10_count_121 : decode cX10_count 121 = .ok (.ireturn, 1) := by decide +kernel
theorem dX10_count_122 : decode cX10_count 122 = .ok (.aload_n 0, 1) := by decide +kernel
theorem dX10_count_123 : decode cX10_count 123 = .ok (.getfield 10, 3) := by decide +kernel
theorem dX10_count_126 : decode cX10_count 126 = .ok (.getfield 304, 3) := by decide +kernel
theorem dX10_count_129 : decode cX10_count 129 = .ok (.getfield 148, 3) := by decide +kernel
theorem dX10_count_132 : decode cX10_count 132 = .ok (.ireturn, 1) := by decide +kernel
theorem dX10_count_133 : decode cX10_count 133 = .ok (.aload_n 0, 1) := by decide +kernel
theorem dX10_count_134 : decode cX10_count 134 = .ok (.getfield 35, 3) := by decide +kernel
theorem dX10_count_137 : decode cX10_count 137 = .ok (.getfield 269, 3) := by decide +kernel
theorem dX10_count_140 : decode cX10_count 140 = .ok (.getfield 148, 3) := by decide +kernel
theorem dX10_count_143 : decode cX10_count 143 = .ok (.ireturn, 1) := by decide +kernel
theorem dX10_count_144 : decode cX10_count 144 = .ok (.aload_n 0, 1) := by decide +kernel
theorem dX10_count_145 : decode cX10_count 145 = .ok (.getfield 10, 3) := by decide +kernel
theorem dX10_count_148 : decode cX10_count 148 = .ok (.getfield 262, 3) := by decide +kernel
theorem dX10_count_151 : decode cX10_count 151 = .ok (.ireturn, 1) := by decide +kernel
theorem dX10_count_152 : decode cX10_count 152 = .ok (.aload_n 0, 1) := by decide +kernel
theorem dX10_count_153 : decode cX10_count 153 = .ok (.iconst 1, 1) := by decide +kernel
theorem dX10_count_154 : decode cX10_count 154 = .ok (.invokevirtual 62, 3) := by decide +kernel
theorem dX10_count_157 : decode cX10_count 157 = .ok (.ireturn, 1) := by decide +kernel
theorem dX10_told_0 : decode cX10_told 0 = .ok (.iload_n 1, 1) := by decide +kernel
theorem dX10_told_1 : decode cX10_told 1 = .ok (.iconst 1, 1) := by decide +kernel
theorem dX10_told_2 : decode cX10_told 2 = .ok (.if_icmp .lt 8, 3) := by decide +kernel
theorem dX10_told_5 : decode cX10_told 5 = .ok (.iload_n 1, 1) := by decide +kernel
theorem dX10_told_6 : decode cX10_told 6 = .ok (.iconst 5, 1) := by decide +kernel
theorem dX10_told_7 : decode cX10_told 7 = .ok (.if_icmp .le 9, 3) := by decide +kernel
theorem dX10_told_10 : decode cX10_told 10 = .ok (.aload_n 0, 1) := by decide +kernel
theorem dX10_told_11 : decode cX10_told 11 = .ok (.iconst 1, 1) := by decide +kernel
theorem dX10_told_12 : decode cX10_told 12 = .ok (.invokevirtual 62, 3) := by decide +kernel
theorem dX10_told_15 : decode cX10_told 15 = .ok (.ireturn, 1) := by decide +kernel
theorem dX10_told_16 : decode cX10_told 16 = .ok (.aload_n 0, 1) := by decide +kernel
theorem dX10_told_17 : decode cX10_told 17 = .ok (.getfield 52, 3) := by decide +kernel
theorem dX10_told_20 : decode cX10_told 20 = .ok (.iload_n 1, 1) := by decide +kernel
theorem dX10_told_21 : decode cX10_told 21 = .ok (.iaload, 1) := by decide +kernel
theorem dX10_told_22 : decode cX10_told 22 = .ok (.ireturn, 1) := by decide +kernel
theorem dX10_error_0 : decode cX10_error 0 = .ok (.aload_n 0, 1) := by decide +kernel
theorem dX10_error_1 : decode cX10_error 1 = .ok (.getfield 52, 3) := by decide +kernel
theorem dX10_error_4 : decode cX10_error 4 = .ok (.iload_n 1, 1) := by decide +kernel
theorem dX10_error_5 : decode cX10_error 5 = .ok (.dup2, 1) := by decide +kernel
theorem dX10_error_6 : decode cX10_error 6 = .ok (.iaload, 1) := by decide +kernel
theorem dX10_error_7 : decode cX10_error 7 = .ok (.iconst 1, 1) := by decide +kernel
theorem dX10_error_8 : decode cX10_error 8 = .ok (.iadd, 1) := by decide +kernel
theorem dX10_error_9 : decode cX10_error 9 = .ok (.iastore, 1) := by decide +kernel
theorem dX10_error_10 : decode cX10_error 10 = .ok (.ldc_w 314, 3) := by decide +kernel
theorem dX10_error_13 : decode cX10_error 13 = .ok (.iload_n 1, 1) := by decide +kernel
theorem dX10_error_14 : decode cX10_error 14 = .ok (.isub, 1) := by decide +kernel
theorem dX10_error_15 : decode cX10_error 15 = .ok (.ireturn, 1) := by decide +kernel
theorem dX10_outside_0 : decode cX10_outside 0 = .ok (.iload_n 0, 1) := by decide +kernel
theorem dX10_outside_1 : decode cX10_outside 1 = .ok (.ifCond .lt 8, 3) := by decide +kernel
theorem dX10_outside_4 : decode cX10_outside 4 = .ok (.iload_n 0, 1) := by decide +kernel
theorem dX10_outside_5 : decode cX10_outside 5 = .ok (.iload_n 1, 1) := by decide +kernel
theorem dX10_outside_6 : decode cX10_outside 6 = .ok (.if_icmp .le 7, 3) := by decide +kernel
theorem dX10_outside_9 : decode cX10_outside 9 = .ok (.iconst 1, 1) := by decide +kernel
theorem dX10_outside_10 : decode cX10_outside 10 = .ok (.goto 4, 3) := by decide +kernel
theorem dX10_outside_13 : decode cX10_outside 13 = .ok (.iconst 0, 1) := by decide +kernel
theorem dX10_outside_14 : decode cX10_outside 14 = .ok (.ireturn, 1) := by decide +kernel
theorem dX10_noBoat_0 : decode cX10_noBoat 0 = .ok (.iload_n 1, 1) := by decide +kernel
theorem dX10_noBoat_1 : decode cX10_noBoat 1 = .ok (.ifCond .lt 17, 3) := by decide +kernel
theorem dX10_noBoat_4 : decode cX10_noBoat 4 = .ok (.iload_n 1, 1) := by decide +kernel
theorem dX10_noBoat_5 : decode cX10_noBoat 5 = .ok (.aload_n 0, 1) := by decide +kernel
theorem dX10_noBoat_6 : decode cX10_noBoat 6 = .ok (.getfield 10, 3) := by decide +kernel
theorem dX10_noBoat_9 : decode cX10_noBoat 9 = .ok (.getfield 66, 3) := by decide +kernel
theorem dX10_noBoat_12 : decode cX10_noBoat 12 = .ok (.getfield 105, 3) := by decide +kernel
theorem dX10_noBoat_15 : decode cX10_noBoat 15 = .ok (.if_icmp .lt 7, 3) := by decide +kernel
theorem dX10_noBoat_18 : decode cX10_noBoat 18 = .ok (.iconst 1, 1) := by decide +kernel
theorem dX10_noBoat_19 : decode cX10_noBoat 19 = .ok (.goto 4, 3) := by decide +kernel
theorem dX10_noBoat_22 : decode cX10_noBoat 22 = .ok (.iconst 0, 1) := by decide +kernel
theorem dX10_noBoat_23 : decode cX10_noBoat 23 = .ok (.ireturn, 1) := by decide +kernel
theorem dX10_noKindNumber_0 : decode cX10_noKindNumber 0 = .ok (.iload_n 0, 1) := by decide +kernel
theorem dX10_noKindNumber_1 : decode cX10_noKindNumber 1 = .ok (.ifCond .lt 12, 3) := by decide +kernel
theorem dX10_noKindNumber_4 : decode cX10_noKindNumber 4 = .ok (.iload_n 0, 1) := by decide +kernel
theorem dX10_noKindNumber_5 : decode cX10_noKindNumber 5 = .ok (.bipush 10, 2) := by decide +kernel
theorem dX10_noKindNumber_7 : decode cX10_noKindNumber 7 = .ok (.idiv, 1) := by decide +kernel
theorem dX10_noKindNumber_8 : decode cX10_noKindNumber 8 = .ok (.bipush 7, 2) := by decide +kernel
theorem dX10_noKindNumber_10 : decode cX10_noKindNumber 10 = .ok (.if_icmp .lt 7, 3) := by decide +kernel
theorem dX10_noKindNumber_13 : decode cX10_noKindNumber 13 = .ok (.iconst 1, 1) := by decide +kernel
theorem dX10_noKindNumber_14 : decode cX10_noKindNumber 14 = .ok (.goto 4, 3) := by decide +kernel
theorem dX10_noKindNumber_17 : decode cX10_noKindNumber 17 = .ok (.iconst 0, 1) := by decide +kernel
theorem dX10_noKindNumber_18 : decode cX10_noKindNumber 18 = .ok (.ireturn, 1) := by decide +kernel
theorem dX10_exchange_0 : decode cX10_exchange 0 = .ok (.aload_n 0, 1) := by decide +kernel
theorem dX10_exchange_1 : decode cX10_exchange 1 = .ok (.iload_n 1, 1) := by decide +kernel
theorem dX10_exchange_2 : decode cX10_exchange 2 = .ok (.iaload, 1) := by decide +kernel
theorem dX10_exchange_3 : decode cX10_exchange 3 = .ok (.istore_n 3, 1) := by decide +kernel
theorem dX10_exchange_4 : decode cX10_exchange 4 = .ok (.aload_n 0, 1) := by decide +kernel
theorem dX10_exchange_5 : decode cX10_exchange 5 = .ok (.iload_n 1, 1) := by decide +kernel
theorem dX10_exchange_6 : decode cX10_exchange 6 = .ok (.iload_n 2, 1) := by decide +kernel
theorem dX10_exchange_7 : decode cX10_exchange 7 = .ok (.iastore, 1) := by decide +kernel
theorem dX10_exchange_8 : decode cX10_exchange 8 = .ok (.iload_n 3, 1) := by decide +kernel
theorem dX10_exchange_9 : decode cX10_exchange 9 = .ok (.ireturn, 1) := by decide +kernel
theorem dX10_sum_0 : decode cX10_sum 0 = .ok (.iconst 0, 1) := by decide +kernel
theorem dX10_sum_1 : decode cX10_sum 1 = .ok (.istore_n 2, 1) := by decide +kernel
theorem dX10_sum_2 : decode cX10_sum 2 = .ok (.iconst 0, 1) := by decide +kernel
theorem dX10_sum_3 : decode cX10_sum 3 = .ok (.istore_n 3, 1) := by decide +kernel
theorem dX10_sum_4 : decode cX10_sum 4 = .ok (.iload_n 3, 1) := by decide +kernel
theorem dX10_sum_5 : decode cX10_sum 5 = .ok (.iload_n 1, 1) := by decide +kernel
theorem dX10_sum_6 : decode cX10_sum 6 = .ok (.if_icmp .ge 15, 3) := by decide +kernel
theorem dX10_sum_9 : decode cX10_sum 9 = .ok (.iload_n 2, 1) := by decide +kernel
theorem dX10_sum_10 : decode cX10_sum 10 = .ok (.aload_n 0, 1) := by decide +kernel
theorem dX10_sum_11 : decode cX10_sum 11 = .ok (.iload_n 3, 1) := by decide +kernel
theorem dX10_sum_12 : decode cX10_sum 12 = .ok (.iaload, 1) := by decide +kernel
theorem dX10_sum_13 : decode cX10_sum 13 = .ok (.iadd, 1) := by decide +kernel
theorem dX10_sum_14 : decode cX10_sum 14 = .ok (.istore_n 2, 1) := by decide +kernel
theorem dX10_sum_15 : decode cX10_sum 15 = .ok (.iinc 3 1, 3) := by decide +kernel
theorem dX10_sum_18 : decode cX10_sum 18 = .ok (.goto (-14), 3) := by decide +kernel
theorem dX10_sum_21 : decode cX10_sum 21 = .ok (.iload_n 2, 1) := by decide +kernel
theorem dX10_sum_22 : decode cX10_sum 22 = .ok (.ireturn, 1) := by decide +kernel
theorem dX10_held_0 : decode cX10_held 0 = .ok (.iconst 0, 1) := by decide +kernel
theorem dX10_held_1 : decode cX10_held 1 = .ok (.bipush 99, 2) := by decide +kernel
theorem dX10_held_3 : decode cX10_held 3 = .ok (.iload_n 0, 1) := by decide +kernel
theorem dX10_held_4 : decode cX10_held 4 = .ok (.invokestatic 315, 3) := by decide +kernel
theorem dX10_held_7 : decode cX10_held 7 = .ok (.invokestatic 318, 3) := by decide +kernel
theorem dX10_held_10 : decode cX10_held 10 = .ok (.ireturn, 1) := by decide +kernel
theorem dX10_commonDivisor_0 : decode cX10_commonDivisor 0 = .ok (.iload_n 1, 1) := by decide +kernel
theorem dX10_commonDivisor_1 : decode cX10_commonDivisor 1 = .ok (.istore_n 2, 1) := by decide +kernel
theorem dX10_commonDivisor_2 : decode cX10_commonDivisor 2 = .ok (.iload_n 2, 1) := by decide +kernel
theorem dX10_commonDivisor_3 : decode cX10_commonDivisor 3 = .ok (.iconst 1, 1) := by decide +kernel
theorem dX10_commonDivisor_4 : decode cX10_commonDivisor 4 = .ok (.if_icmp .le 23, 3) := by decide +kernel
theorem dX10_commonDivisor_7 : decode cX10_commonDivisor 7 = .ok (.iload_n 0, 1) := by decide +kernel
theorem dX10_commonDivisor_8 : decode cX10_commonDivisor 8 = .ok (.iload_n 2, 1) := by decide +kernel
theorem dX10_commonDivisor_9 : decode cX10_commonDivisor 9 = .ok (.irem, 1) := by decide +kernel
theorem dX10_commonDivisor_10 : decode cX10_commonDivisor 10 = .ok (.ifCond .ne 11, 3) := by decide +kernel
theorem dX10_commonDivisor_13 : decode cX10_commonDivisor 13 = .ok (.iload_n 1, 1) := by decide +kernel
theorem dX10_commonDivisor_14 : decode cX10_commonDivisor 14 = .ok (.iload_n 2, 1) := by decide +kernel
theorem dX10_commonDivisor_15 : decode cX10_commonDivisor 15 = .ok (.irem, 1) := by decide +kernel
theorem dX10_commonDivisor_16 : decode cX10_commonDivisor 16 = .ok (.ifCond .ne 5, 3) := by decide +kernel
theorem dX10_commonDivisor_19 : decode cX10_commonDivisor 19 = .ok (.iload_n 2, 1) := by decide +kernel
theorem dX10_commonDivisor_20 : decode cX10_commonDivisor 20 = .ok (.ireturn, 1) := by decide +kernel
theorem dX10_commonDivisor_21 : decode cX10_commonDivisor 21 = .ok (.iinc 2 (-1), 3) := by decide +kernel
theorem dX10_commonDivisor_24 : decode cX10_commonDivisor 24 = .ok (.goto (-22), 3) := by decide +kernel
theorem dX10_commonDivisor_27 : decode cX10_commonDivisor 27 = .ok (.iconst 1, 1) := by decide +kernel
theorem dX10_commonDivisor_28 : decode cX10_commonDivisor 28 = .ok (.ireturn, 1) := by decide +kernel
theorem dX10_think_0 : decode cX10_think 0 = .ok (.aload_n 0, 1) := by decide +kernel
theorem dX10_think_1 : decode cX10_think 1 = .ok (.getfield 21, 3) := by decide +kernel
theorem dX10_think_4 : decode cX10_think 4 = .ok (.iconst 0, 1) := by decide +kernel
theorem dX10_think_5 : decode cX10_think 5 = .ok (.aaload, 1) := by decide +kernel
theorem dX10_think_6 : decode cX10_think 6 = .ok (.aload_n 0, 1) := by decide +kernel
theorem dX10_think_7 : decode cX10_think 7 = .ok (.getfield 10, 3) := by decide +kernel
theorem dX10_think_10 : decode cX10_think 10 = .ok (.getfield 66, 3) := by decide +kernel
theorem dX10_think_13 : decode cX10_think 13 = .ok (.invokevirtual 321, 3) := by decide +kernel
theorem dX10_think_16 : decode cX10_think 16 = .ok (.aload_n 0, 1) := by decide +kernel
theorem dX10_think_17 : decode cX10_think 17 = .ok (.getfield 21, 3) := by decide +kernel
theorem dX10_think_20 : decode cX10_think 20 = .ok (.iconst 0, 1) := by decide +kernel
theorem dX10_think_21 : decode cX10_think 21 = .ok (.aaload, 1) := by decide +kernel
theorem dX10_think_22 : decode cX10_think 22 = .ok (.areturn, 1) := by decide +kernel
theorem dX10_suppose_0 : decode cX10_suppose 0 = .ok (.aload_n 0, 1) := by decide +kernel
theorem dX10_suppose_1 : decode cX10_suppose 1 = .ok (.invokevirtual 208, 3) := by decide +kernel
theorem dX10_suppose_4 : decode cX10_suppose 4 = .ok (.astore 4, 2) := by decide +kernel
theorem dX10_suppose_6 : decode cX10_suppose 6 = .ok (.iload_n 1, 1) := by decide +kernel
theorem dX10_suppose_7 : decode cX10_suppose 7 = .ok (.tableswitch 73 0 3 #[29, 40, 51, 62], 29) := by decide +kernel
theorem dX10_suppose_36 : decode cX10_suppose 36 = .ok (.aload 4, 2) := by decide +kernel
theorem dX10_suppose_38 : decode cX10_suppose 38 = .ok (.getfield 91, 3) := by decide +kernel
theorem dX10_suppose_41 : decode cX10_suppose 41 = .ok (.iload_n 2, 1) := by decide +kernel
theorem dX10_suppose_42 : decode cX10_suppose 42 = .ok (.iload_n 3, 1) := by decide +kernel
theorem dX10_suppose_43 : decode cX10_suppose 43 = .ok (.iastore, 1) := by decide +kernel
theorem dX10_suppose_44 : decode cX10_suppose 44 = .ok (.goto 42, 3) := by decide +kernel
theorem dX10_suppose_47 : decode cX10_suppose 47 = .ok (.aload 4, 2) := by decide +kernel
theorem dX10_suppose_49 : decode cX10_suppose 49 = .ok (.getfield 121, 3) := by decide +kernel
theorem dX10_suppose_52 : decode cX10_suppose 52 = .ok (.iload_n 2, 1) := by decide +kernel
theorem dX10_suppose_53 : decode cX10_suppose 53 = .ok (.iload_n 3, 1) := by decide +kernel
theorem dX10_suppose_54 : decode cX10_suppose 54 = .ok (.iastore, 1) := by decide +kernel
theorem dX10_suppose_55 : decode cX10_suppose 55 = .ok (.goto 31, 3) := by decide +kernel
theorem dX10_suppose_58 : decode cX10_suppose 58 = .ok (.aload 4, 2) := by decide +kernel
theorem dX10_suppose_60 : decode cX10_suppose 60 = .ok (.getfield 115, 3) := by decide +kernel
theorem dX10_suppose_63 : decode cX10_suppose 63 = .ok (.iload_n 2, 1) := by decide +kernel
theorem dX10_suppose_64 : decode cX10_suppose 64 = .ok (.iload_n 3, 1) := by decide +kernel
theorem dX10_suppose_65 : decode cX10_suppose 65 = .ok (.iastore, 1) := by decide +kernel
theorem dX10_suppose_66 : decode cX10_suppose 66 = .ok (.goto 20, 3) := by decide +kernel
theorem dX10_suppose_69 : decode cX10_suppose 69 = .ok (.aload 4, 2) := by decide +kernel
theorem dX10_suppose_71 : decode cX10_suppose 71 = .ok (.getfield 73, 3) := by decide +kernel
theorem dX10_suppose_74 : decode cX10_suppose 74 = .ok (.iload_n 2, 1) := by decide +kernel
theorem dX10_suppose_75 : decode cX10_suppose 75 = .ok (.iload_n 3, 1) := by decide +kernel
theorem dX10_suppose_76 : decode cX10_suppose 76 = .ok (.iastore, 1) := by decide +kernel
theorem dX10_suppose_77 : decode cX10_suppose 77 = .ok (.goto 9, 3) := by decide +kernel
theorem dX10_suppose_80 : decode cX10_suppose 80 = .ok (.aload 4, 2) := by decide +kernel
theorem dX10_suppose_82 : decode cX10_suppose 82 = .ok (.iload_n 3, 1) := by decide +kernel
theorem dX10_suppose_83 : decode cX10_suppose 83 = .ok (.putfield 94, 3) := by decide +kernel
theorem dX10_suppose_86 : decode cX10_suppose 86 = .ok (.aload 4, 2) := by decide +kernel
theorem dX10_suppose_88 : decode cX10_suppose 88 = .ok (.areturn, 1) := by decide +kernel
theorem dX10_hadBehind_0 : decode cX10_hadBehind 0 = .ok (.iconst 0, 1) := by decide +kernel
theorem dX10_hadBehind_1 : decode cX10_hadBehind 1 = .ok (.istore_n 3, 1) := by decide +kernel
theorem dX10_hadBehind_2 : decode cX10_hadBehind 2 = .ok (.iload_n 3, 1) := by decide +kernel
theorem dX10_hadBehind_3 : decode cX10_hadBehind 3 = .ok (.iload_n 2, 1) := by decide +kernel
theorem dX10_hadBehind_4 : decode cX10_hadBehind 4 = .ok (.if_icmp .ge 22, 3) := by decide +kernel
theorem dX10_hadBehind_7 : decode cX10_hadBehind 7 = .ok (.aload_n 1, 1) := by decide +kernel
theorem dX10_hadBehind_8 : decode cX10_hadBehind 8 = .ok (.aload_n 0, 1) := by decide +kernel
theorem dX10_hadBehind_9 : decode cX10_hadBehind 9 = .ok (.getfield 10, 3) := by decide +kernel
theorem dX10_hadBehind_12 : decode cX10_hadBehind 12 = .ok (.getfield 83, 3) := by decide +kernel
theorem dX10_hadBehind_15 : decode cX10_hadBehind 15 = .ok (.iconst (-1), 1) := by decide +kernel
theorem dX10_hadBehind_16 : decode cX10_hadBehind 16 = .ok (.iconst 0, 1) := by decide +kernel
theorem dX10_hadBehind_17 : decode cX10_hadBehind 17 = .ok (.invokevirtual 201, 3) := by decide +kernel
theorem dX10_hadBehind_20 : decode cX10_hadBehind 20 = .ok (.iinc 3 1, 3) := by decide +kernel
theorem dX10_hadBehind_23 : decode cX10_hadBehind 23 = .ok (.goto (-21), 3) := by decide +kernel
theorem dX10_hadBehind_26 : decode cX10_hadBehind 26 = .ok (.aload_n 1, 1) := by decide +kernel
theorem dX10_hadBehind_27 : decode cX10_hadBehind 27 = .ok (.invokevirtual 205, 3) := by decide +kernel
theorem dX10_hadBehind_30 : decode cX10_hadBehind 30 = .ok (.ireturn, 1) := by decide +kernel
theorem dX10_bestOf_0 : decode cX10_bestOf 0 = .ok (.iconst 0, 1) := by decide +kernel
theorem dX10_bestOf_1 : decode cX10_bestOf 1 = .ok (.istore 5, 2) := by decide +kernel
theorem dX10_bestOf_3 : decode cX10_bestOf 3 = .ok (.iconst (-1), 1) := by decide +kernel
theorem dX10_bestOf_4 : decode cX10_bestOf 4 = .ok (.istore 6, 2) := by decide +kernel
theorem dX10_bestOf_6 : decode cX10_bestOf 6 = .ok (.iconst 0, 1) := by decide +kernel
theorem dX10_bestOf_7 : decode cX10_bestOf 7 = .ok (.istore 7, 2) := by decide +kernel
theorem dX10_bestOf_9 : decode cX10_bestOf 9 = .ok (.iload 7, 2) := by decide +kernel
theorem dX10_bestOf_11 : decode cX10_bestOf 11 = .ok (.iload_n 3, 1) := by decide +kernel
theorem dX10_bestOf_12 : decode cX10_bestOf 12 = .ok (.if_icmp .ge 40, 3) := by decide +kernel
theorem dX10_bestOf_15 : decode cX10_bestOf 15 = .ok (.aload_n 0, 1) := by decide +kernel
theorem dX10_bestOf_16 : decode cX10_bestOf 16 = .ok (.aload_n 0, 1) := by decide +kernel
theorem dX10_bestOf_17 : decode cX10_bestOf 17 = .ok (.iload_n 1, 1) := by decide +kernel
theorem dX10_bestOf_18 : decode cX10_bestOf 18 = .ok (.iload_n 2, 1) := by decide +kernel
theorem dX10_bestOf_19 : decode cX10_bestOf 19 = .ok (.iload 7, 2) := by decide +kernel
theorem dX10_bestOf_21 : decode cX10_bestOf 21 = .ok (.invokevirtual 229, 3) := by decide +kernel
theorem dX10_bestOf_24 : decode cX10_bestOf 24 = .ok (.iload 4, 2) := by decide +kernel
theorem dX10_bestOf_26 : decode cX10_bestOf 26 = .ok (.invokevirtual 190, 3) := by decide +kernel
theorem dX10_bestOf_29 : decode cX10_bestOf 29 = .ok (.istore 8, 2) := by decide +kernel
theorem dX10_bestOf_31 : decode cX10_bestOf 31 = .ok (.iload 8, 2) := by decide +kernel
theorem dX10_bestOf_33 : decode cX10_bestOf 33 = .ok (.iload 6, 2) := by decide +kernel
theorem dX10_bestOf_35 : decode cX10_bestOf 35 = .ok (.if_icmp .le 11, 3) := by decide +kernel
theorem dX10_bestOf_38 : decode cX10_bestOf 38 = .ok (.iload 8, 2) := by decide +kernel
theorem dX10_bestOf_40 : decode cX10_bestOf 40 = .ok (.istore 6, 2) := by decide +kernel
theorem dX10_bestOf_42 : decode cX10_bestOf 42 = .ok (.iload 7, 2) := by decide +kernel
theorem dX10_bestOf_44 : decode cX10_bestOf 44 = .ok (.istore 5, 2) := by decide +kernel
theorem dX10_bestOf_46 : decode cX10_bestOf 46 = .ok (.iinc 7 1, 3) := by decide +kernel
theorem dX10_bestOf_49 : decode cX10_bestOf 49 = .ok (.goto (-40), 3) := by decide +kernel
theorem dX10_bestOf_52 : decode cX10_bestOf 52 = .ok (.iload 5, 2) := by decide +kernel
theorem dX10_bestOf_54 : decode cX10_bestOf 54 = .ok (.ireturn, 1) := by decide +kernel
theorem dX10_firstUnlike_0 : decode cX10_firstUnlike 0 = .ok (.iconst 0, 1) := by decide +kernel
theorem dX10_firstUnlike_1 : decode cX10_firstUnlike 1 = .ok (.istore_n 3, 1) := by decide +kernel
theorem dX10_firstUnlike_2 : decode cX10_firstUnlike 2 = .ok (.iload_n 3, 1) := by decide +kernel
theorem dX10_firstUnlike_3 : decode cX10_firstUnlike 3 = .ok (.aload_n 2, 1) := by decide +kernel
theorem dX10_firstUnlike_4 : decode cX10_firstUnlike 4 = .ok (.getfield 148, 3) := by decide +kernel
theorem dX10_firstUnlike_7 : decode cX10_firstUnlike 7 = .ok (.if_icmp .ge 36, 3) := by decide +kernel
theorem dX10_firstUnlike_10 : decode cX10_firstUnlike 10 = .ok (.aload_n 1, 1) := by decide +kernel
theorem dX10_firstUnlike_11 : decode cX10_firstUnlike 11 = .ok (.aload_n 0, 1) := by decide +kernel
theorem dX10_firstUnlike_12 : decode cX10_firstUnlike 12 = .ok (.getfield 10, 3) := by decide +kernel
theorem dX10_firstUnlike_15 : decode cX10_firstUnlike 15 = .ok (.getfield 83, 3) := by decide +kernel
theorem dX10_firstUnlike_18 : decode cX10_firstUnlike 18 = .ok (.iconst (-1), 1) := by decide +kernel
theorem dX10_firstUnlike_19 : decode cX10_firstUnlike 19 = .ok (.iconst 0, 1) := by decide +kernel
theorem dX10_firstUnlike_20 : decode cX10_firstUnlike 20 = .ok (.invokevirtual 201, 3) := by decide +kernel
theorem dX10_firstUnlike_23 : decode cX10_firstUnlike 23 = .ok (.aload_n 1, 1) := by decide +kernel
theorem dX10_firstUnlike_24 : decode cX10_firstUnlike 24 = .ok (.invokevirtual 205, 3) := by decide +kernel
theorem dX10_firstUnlike_27 : decode cX10_firstUnlike 27 = .ok (.aload_n 2, 1) := by decide +kernel
theorem dX10_firstUnlike_28 : decode cX10_firstUnlike 28 = .ok (.iload_n 3, 1) := by decide +kernel
theorem dX10_firstUnlike_29 : decode cX10_firstUnlike 29 = .ok (.invokevirtual 275, 3) := by decide +kernel
theorem dX10_firstUnlike_32 : decode cX10_firstUnlike 32 = .ok (.if_icmp .eq 5, 3) := by decide +kernel
theorem dX10_firstUnlike_35 : decode cX10_firstUnlike 35 = .ok (.iload_n 3, 1) := by decide +kernel
theorem dX10_firstUnlike_36 : decode cX10_firstUnlike 36 = .ok (.ireturn, 1) := by decide +kernel
theorem dX10_firstUnlike_37 : decode cX10_firstUnlike 37 = .ok (.iinc 3 1, 3) := by decide +kernel
theorem dX10_firstUnlike_40 : decode cX10_firstUnlike 40 = .ok (.goto (-38), 3) := by decide +kernel
theorem dX10_firstUnlike_43 : decode cX10_firstUnlike 43 = .ok (.iconst (-1), 1) := by decide +kernel
theorem dX10_firstUnlike_44 : decode cX10_firstUnlike 44 = .ok (.ireturn, 1) := by decide +kernel
theorem dX10_tryRoutes_0 : decode cX10_tryRoutes 0 = .ok (.iload_n 3, 1) := by decide +kernel
theorem dX10_tryRoutes_1 : decode cX10_tryRoutes 1 = .ok (.iload_n 2, 1) := by decide +kernel
theorem dX10_tryRoutes_2 : decode cX10_tryRoutes 2 = .ok (.if_icmp .ge 8, 3) := by decide +kernel
theorem dX10_tryRoutes_5 : decode cX10_tryRoutes 5 = .ok (.iload_n 3, 1) := by decide +kernel
theorem dX10_tryRoutes_6 : decode cX10_tryRoutes 6 = .ok (.iconst 4, 1) := by decide +kernel
theorem dX10_tryRoutes_7 : decode cX10_tryRoutes 7 = .ok (.if_icmp .lt 36, 3) := by decide +kernel
theorem dX10_tryRoutes_10 : decode cX10_tryRoutes 10 = .ok (.aload_n 0, 1) := by decide +kernel
theorem dX10_tryRoutes_11 : decode cX10_tryRoutes 11 = .ok (.getfield 21, 3) := by decide +kernel
theorem dX10_tryRoutes_14 : decode cX10_tryRoutes 14 = .ok (.iload_n 3, 1) := by decide +kernel
theorem dX10_tryRoutes_15 : decode cX10_tryRoutes 15 = .ok (.aaload, 1) := by decide +kernel
theorem dX10_tryRoutes_16 : decode cX10_tryRoutes 16 = .ok (.invokevirtual 205, 3) := by decide +kernel
theorem dX10_tryRoutes_19 : decode cX10_tryRoutes 19 = .ok (.istore 5, 2) := by decide +kernel
theorem dX10_tryRoutes_21 : decode cX10_tryRoutes 21 = .ok (.iload 5, 2) := by decide +kernel
theorem dX10_tryRoutes_23 : decode cX10_tryRoutes 23 = .ok (.aload_n 0, 1) := by decide +kernel
theorem dX10_tryRoutes_24 : decode cX10_tryRoutes 24 = .ok (.getfield 219, 3) := by decide +kernel
theorem dX10_tryRoutes_27 : decode cX10_tryRoutes 27 = .ok (.if_icmp .le 15, 3) := by decide +kernel
theorem dX10_tryRoutes_30 : decode cX10_tryRoutes 30 = .ok (.aload_n 0, 1) := by decide +kernel
theorem dX10_tryRoutes_31 : decode cX10_tryRoutes 31 = .ok (.iload 5, 2) := by decide +kernel
theorem dX10_tryRoutes_33 : decode cX10_tryRoutes 33 = .ok (.putfield 219, 3) := by decide +kernel
theorem dX10_tryRoutes_36 : decode cX10_tryRoutes 36 = .ok (.aload_n 0, 1) := by decide +kernel
theorem dX10_tryRoutes_37 : decode cX10_tryRoutes 37 = .ok (.iload 4, 2) := by decide +kernel
theorem dX10_tryRoutes_39 : decode cX10_tryRoutes 39 = .ok (.putfield 222, 3) := by decide +kernel
theorem dX10_tryRoutes_42 : decode cX10_tryRoutes 42 = .ok (.return_, 1) := by decide +kernel
theorem dX10_tryRoutes_43 : decode cX10_tryRoutes 43 = .ok (.iconst 0, 1) := by decide +kernel
theorem dX10_tryRoutes_44 : decode cX10_tryRoutes 44 = .ok (.istore 5, 2) := by decide +kernel
theorem dX10_tryRoutes_46 : decode cX10_tryRoutes 46 = .ok (.iload 5, 2) := by decide +kernel
theorem dX10_tryRoutes_48 : decode cX10_tryRoutes 48 = .ok (.iconst 5, 1) := by decide +kernel
theorem dX10_tryRoutes_49 : decode cX10_tryRoutes 49 = .ok (.if_icmp .ge 64, 3) := by decide +kernel
theorem dX10_tryRoutes_52 : decode cX10_tryRoutes 52 = .ok (.aload_n 0, 1) := by decide +kernel
theorem dX10_tryRoutes_53 : decode cX10_tryRoutes 53 = .ok (.getfield 21, 3) := by decide +kernel
theorem dX10_tryRoutes_56 : decode cX10_tryRoutes 56 = .ok (.iload_n 3, 1) := by decide +kernel
theorem dX10_tryRoutes_57 : decode cX10_tryRoutes 57 = .ok (.iconst 1, 1) := by decide +kernel
theorem dX10_tryRoutes_58 : decode cX10_tryRoutes 58 = .ok (.iadd, 1) := by decide +kernel
theorem dX10_tryRoutes_59 : decode cX10_tryRoutes 59 = .ok (.aaload, 1) := by decide +kernel
theorem dX10_tryRoutes_60 : decode cX10_tryRoutes 60 = .ok (.aload_n 0, 1) := by decide +kernel
theorem dX10_tryRoutes_61 : decode cX10_tryRoutes 61 = .ok (.getfield 21, 3) := by decide +kernel
theorem dX10_tryRoutes_64 : decode cX10_tryRoutes 64 = .ok (.iload_n 3, 1) := by decide +kernel
theorem dX10_tryRoutes_65 : decode cX10_tryRoutes 65 = .ok (.aaload, 1) := by decide +kernel
theorem dX10_tryRoutes_66 : decode cX10_tryRoutes 66 = .ok (.invokevirtual 321, 3) := by decide +kernel
theorem dX10_tryRoutes_69 : decode cX10_tryRoutes 69 = .ok (.aload_n 0, 1) := by decide +kernel
theorem dX10_tryRoutes_70 : decode cX10_tryRoutes 70 = .ok (.getfield 21, 3) := by decide +kernel
theorem dX10_tryRoutes_73 : decode cX10_tryRoutes 73 = .ok (.iload_n 3, 1) := by decide +kernel
theorem dX10_tryRoutes_74 : decode cX10_tryRoutes 74 = .ok (.iconst 1, 1) := by decide +kernel
theorem dX10_tryRoutes_75 : decode cX10_tryRoutes 75 = .ok (.iadd, 1) := by decide +kernel
theorem dX10_tryRoutes_76 : decode cX10_tryRoutes 76 = .ok (.aaload, 1) := by decide +kernel
theorem dX10_tryRoutes_77 : decode cX10_tryRoutes 77 = .ok (.aload_n 0, 1) := by decide +kernel
theorem dX10_tryRoutes_78 : decode cX10_tryRoutes 78 = .ok (.getfield 10, 3) := by decide +kernel
theorem dX10_tryRoutes_81 : decode cX10_tryRoutes 81 = .ok (.getfield 83, 3) := by decide +kernel
theorem dX10_tryRoutes_84 : decode cX10_tryRoutes 84 = .ok (.iload_n 1, 1) := by decide +kernel
theorem dX10_tryRoutes_85 : decode cX10_tryRoutes 85 = .ok (.iload 5, 2) := by decide +kernel
theorem dX10_tryRoutes_87 : decode cX10_tryRoutes 87 = .ok (.invokevirtual 201, 3) := by decide +kernel
theorem dX10_tryRoutes_90 : decode cX10_tryRoutes 90 = .ok (.aload_n 0, 1) := by decide +kernel
theorem dX10_tryRoutes_91 : decode cX10_tryRoutes 91 = .ok (.iload_n 1, 1) := by decide +kernel
theorem dX10_tryRoutes_92 : decode cX10_tryRoutes 92 = .ok (.iload_n 2, 1) := by decide +kernel
theorem dX10_tryRoutes_93 : decode cX10_tryRoutes 93 = .ok (.iload_n 3, 1) := by decide +kernel
theorem dX10_tryRoutes_94 : decode cX10_tryRoutes 94 = .ok (.iconst 1, 1) := by decide +kernel
theorem dX10_tryRoutes_95 : decode cX10_tryRoutes 95 = .ok (.iadd, 1) := by decide +kernel
theorem dX10_tryRoutes_96 : decode cX10_tryRoutes 96 = .ok (.bipush 10, 2) := by decide +kernel
theorem dX10_tryRoutes_98 : decode cX10_tryRoutes 98 = .ok (.iload 4, 2) := by decide +kernel
theorem dX10_tryRoutes_100 : decode cX10_tryRoutes 100 = .ok (.imul, 1) := by decide +kernel
theorem dX10_tryRoutes_101 : decode cX10_tryRoutes 101 = .ok (.iload 5, 2) := by decide +kernel
theorem dX10_tryRoutes_103 : decode cX10_tryRoutes 103 = .ok (.iadd, 1) := by decide +kernel
theorem dX10_tryRoutes_104 : decode cX10_tryRoutes 104 = .ok (.invokevirtual 225, 3) := by decide +kernel
theorem dX10_tryRoutes_107 : decode cX10_tryRoutes 107 = .ok (.iinc 5 1, 3) := by decide +kernel
theorem dX10_tryRoutes_110 : decode cX10_tryRoutes 110 = .ok (.goto (-64), 3) := by decide +kernel
theorem dX10_tryRoutes_113 : decode cX10_tryRoutes 113 = .ok (.return_, 1) := by decide +kernel
theorem dX11_init_0 : decode cX11_init 0 = .ok (.aload_n 0, 1) := by decide +kernel
theorem dX11_init_1 : decode cX11_init 1 = .ok (.invokespecial 3, 3) := by decide +kernel
theorem dX11_init_4 : decode cX11_init 4 = .ok (.aload_n 0, 1) := by decide +kernel
theorem dX11_init_5 : decode cX11_init 5 = .ok (.sipush 256, 3) := by decide +kernel
theorem dX11_init_8 : decode cX11_init 8 = .ok (.newarray .int, 2) := by decide +kernel
theorem dX11_init_10 : decode cX11_init 10 = .ok (.putfield 9, 3) := by decide +kernel
theorem dX11_init_13 : decode cX11_init 13 = .ok (.aload_n 0, 1) := by decide +kernel
theorem dX11_init_14 : decode cX11_init 14 = .ok (.sipush 256, 3) := by decide +kernel
theorem dX11_init_17 : decode cX11_init 17 = .ok (.newarray .int, 2) := by decide +kernel
theorem dX11_init_19 : decode cX11_init 19 = .ok (.putfield 13, 3) := by decide +kernel
theorem dX11_init_22 : decode cX11_init 22 = .ok (.aload_n 0, 1) := by decide +kernel
theorem dX11_init_23 : decode cX11_init 23 = .ok (.sipush 256, 3) := by decide +kernel
theorem dX11_init_26 : decode cX11_init 26 = .ok (.newarray .int, 2) := by decide +kernel
theorem dX11_init_28 : decode cX11_init 28 = .ok (.putfield 16, 3) := by decide +kernel
theorem dX11_init_31 : decode cX11_init 31 = .ok (.aload_n 0, 1) := by decide +kernel
theorem dX11_init_32 : decode cX11_init 32 = .ok (.bipush 6, 2) := by decide +kernel
theorem dX11_init_34 : decode cX11_init 34 = .ok (.newarray .int, 2) := by decide +kernel
theorem dX11_init_36 : decode cX11_init 36 = .ok (.putfield 19, 3) := by decide +kernel
theorem dX11_init_39 : decode cX11_init 39 = .ok (.aload_n 0, 1) := by decide +kernel
theorem dX11_init_40 : decode cX11_init 40 = .ok (.iconst (-1), 1) := by decide +kernel
theorem dX11_init_41 : decode cX11_init 41 = .ok (.putfield 22, 3) := by decide +kernel
theorem dX11_init_44 : decode cX11_init 44 = .ok (.aload_n 0, 1) := by decide +kernel
theorem dX11_init_45 : decode cX11_init 45 = .ok (.iconst 2, 1) := by decide +kernel
theorem dX11_init_46 : decode cX11_init 46 = .ok (.anewarray 26, 3) := by decide +kernel
theorem dX11_init_49 : decode cX11_init 49 = .ok (.dup, 1) := by decide +kernel
theorem dX11_init_50 : decode cX11_init 50 = .ok (.iconst 0, 1) := by decide +kernel
theorem dX11_init_51 : decode cX11_init 51 = .ok (.ldc 28, 2) := by decide +kernel
theorem dX11_init_53 : decode cX11_init 53 = .ok (.aastore, 1) := by decide +kernel
theorem dX11_init_54 : decode cX11_init 54 = .ok (.dup, 1) := by decide +kernel
theorem dX11_init_55 : decode cX11_init 55 = .ok (.iconst 1, 1) := by decide +kernel
theorem dX11_init_56 : decode cX11_init 56 = .ok (.ldc 30, 2) := by decide +kernel
theorem dX11_init_58 : decode cX11_init 58 = .ok (.aastore, 1) := by decide +kernel
theorem dX11_init_59 : decode cX11_init 59 = .ok (.putfield 32, 3) := by decide +kernel
theorem dX11_init_62 : decode cX11_init 62 = .ok (.aload_n 0, 1) := by decide +kernel
theorem dX11_init_63 : decode cX11_init 63 = .ok (.bipush 60, 2) := by decide +kernel
theorem dX11_init_65 : decode cX11_init 65 = .ok (.newarray .int, 2) := by decide +kernel
theorem dX11_init_67 : decode cX11_init 67 = .ok (.putfield 36, 3) := by decide +kernel
theorem dX11_init_70 : decode cX11_init 70 = .ok (.aload_n 0, 1) := by decide +kernel
theorem dX11_init_71 : decode cX11_init 71 = .ok (.iconst 4, 1) := by decide +kernel
theorem dX11_init_72 : decode cX11_init 72 = .ok (.newarray .int, 2) := by decide +kernel
theorem dX11_init_74 : decode cX11_init 74 = .ok (.putfield 39, 3) := by decide +kernel
theorem dX11_init_77 : decode cX11_init 77 = .ok (.aload_n 0, 1) := by decide +kernel
theorem dX11_init_78 : decode cX11_init 78 = .ok (.bipush 60, 2) := by decide +kernel
theorem dX11_init_80 : decode cX11_init 80 = .ok (.newarray .int, 2) := by decide +kernel
theorem dX11_init_82 : decode cX11_init 82 = .ok (.putfield 42, 3) := by decide +kernel
theorem dX11_init_85 : decode cX11_init 85 = .ok (.aload_n 0, 1) := by decide +kernel
theorem dX11_init_86 : decode cX11_init 86 = .ok (.sipush 1792, 3) := by decide +kernel
theorem dX11_init_89 : decode cX11_init 89 = .ok (.newarray .int, 2) := by decide +kernel
theorem dX11_init_91 : decode cX11_init 91 = .ok (.putfield 45, 3) := by decide +kernel
theorem dX11_init_94 : decode cX11_init 94 = .ok (.aload_n 0, 1) := by decide +kernel
theorem dX11_init_95 : decode cX11_init 95 = .ok (.bipush 40, 2) := by decide +kernel
theorem dX11_init_97 : decode cX11_init 97 = .ok (.newarray .int, 2) := by decide +kernel
theorem dX11_init_99 : decode cX11_init 99 = .ok (.putfield 48, 3) := by decide +kernel
theorem dX11_init_102 : decode cX11_init 102 = .ok (.aload_n 0, 1) := by decide +kernel
theorem dX11_init_103 : decode cX11_init 103 = .ok (.iconst 4, 1) := by decide +kernel
theorem dX11_init_104 : decode cX11_init 104 = .ok (.newarray .int, 2) := by decide +kernel
theorem dX11_init_106 : decode cX11_init 106 = .ok (.putfield 51, 3) := by decide +kernel
theorem dX11_init_109 : decode cX11_init 109 = .ok (.aload_n 0, 1) := by decide +kernel
theorem dX11_init_110 : decode cX11_init 110 = .ok (.iconst 4, 1) := by decide +kernel
theorem dX11_init_111 : decode cX11_init 111 = .ok (.newarray .int, 2) := by decide +kernel
theorem dX11_init_113 : decode cX11_init 113 = .ok (.putfield 54, 3) := by decide +kernel
theorem dX11_init_116 : decode cX11_init 116 = .ok (.aload_n 0, 1) := by decide +kernel
theorem dX11_init_117 : decode cX11_init 117 = .ok (.sipush 160, 3) := by decide +kernel
theorem dX11_init_120 : decode cX11_init 120 = .ok (.newarray .int, 2) := by decide +kernel
theorem dX11_init_122 : decode cX11_init 122 = .ok (.putfield 57, 3) := by decide +kernel
theorem dX11_init_125 : decode cX11_init 125 = .ok (.aload_n 0, 1) := by decide +kernel
theorem dX11_init_126 : decode cX11_init 126 = .ok (.bipush 40, 2) := by decide +kernel
theorem dX11_init_128 : decode cX11_init 128 = .ok (.newarray .int, 2) := by decide +kernel
theorem dX11_init_130 : decode cX11_init 130 = .ok (.putfield 60, 3) := by decide +kernel
theorem dX11_init_133 : decode cX11_init 133 = .ok (.aload_n 0, 1) := by decide +kernel
theorem dX11_init_134 : decode cX11_init 134 = .ok (.getfield 9, 3) := by decide +kernel
theorem dX11_init_137 : decode cX11_init 137 = .ok (.iconst 3, 1) := by decide +kernel
theorem dX11_init_138 : decode cX11_init 138 = .ok (.iconst 1, 1) := by decide +kernel
theorem dX11_init_139 : decode cX11_init 139 = .ok (.iastore, 1) := by decide +kernel
theorem dX11_init_140 : decode cX11_init 140 = .ok (.aload_n 0, 1) := by decide +kernel
theorem dX11_init_141 : decode cX11_init 141 = .ok (.getfield 9, 3) := by decide +kernel
theorem dX11_init_144 : decode cX11_init 144 = .ok (.iconst 2, 1) := by decide +kernel
theorem dX11_init_145 : decode cX11_init 145 = .ok (.bipush 14, 2) := by decide +kernel
theorem dX11_init_147 : decode cX11_init 147 = .ok (.iastore, 1) := by decide +kernel
theorem dX11_init_148 : decode cX11_init 148 = .ok (.iconst 0, 1) := by decide +kernel
theorem dX11_init_149 : decode cX11_init 149 = .ok (.istore_n 1, 1) := by decide +kernel
theorem dX11_init_150 : decode cX11_init 150 = .ok (.iload_n 1, 1) := by decide +kernel
theorem dX11_init_151 : decode cX11_init 151 = .ok (.bipush 16, 2) := by decide +kernel
theorem dX11_init_153 : decode cX11_init 153 = .ok (.if_icmp .ge 22, 3) := by decide +kernel
theorem dX11_init_156 : decode cX11_init 156 = .ok (.aload_n 0, 1) := by decide +kernel
theorem dX11_init_157 : decode cX11_init 157 = .ok (.getfield 9, 3) := by decide +kernel
theorem dX11_init_160 : decode cX11_init 160 = .ok (.bipush 18, 2) := by decide +kernel
theorem dX11_init_162 : decode cX11_init 162 = .ok (.iload_n 1, 1) := by decide +kernel
theorem dX11_init_163 : decode cX11_init 163 = .ok (.iadd, 1) := by decide +kernel
theorem dX11_init_164 : decode cX11_init 164 = .ok (.iload_n 1, 1) := by decide +kernel
theorem dX11_init_165 : decode cX11_init 165 = .ok (.bipush 10, 2) := by decide +kernel
theorem dX11_init_167 : decode cX11_init 167 = .ok (.irem, 1) := by decide +kernel
theorem dX11_init_168 : decode cX11_init 168 = .ok (.iastore, 1) := by decide +kernel
theorem dX11_init_169 : decode cX11_init 169 = .ok (.iinc 1 1, 3) := by decide +kernel
theorem dX11_init_172 : decode cX11_init 172 = .ok (.goto (-22), 3) := by decide +kernel
theorem dX11_init_175 : decode cX11_init 175 = .ok (.iconst 0, 1) := by decide +kernel
theorem dX11_init_176 : decode cX11_init 176 = .ok (.istore_n 1, 1) := by decide +kernel
theorem dX11_init_177 : decode cX11_init 177 = .ok (.iload_n 1, 1) := by decide +kernel
theorem dX11_init_178 : decode cX11_init 178 = .ok (.bipush 6, 2) := by decide +kernel
theorem dX11_init_180 : decode cX11_init 180 = .ok (.if_icmp .ge 20, 3) := by decide +kernel
theorem dX11_init_183 : decode cX11_init 183 = .ok (.aload_n 0, 1) := by decide +kernel
theorem dX11_init_184 : decode cX11_init 184 = .ok (.getfield 9, 3) := by decide +kernel
theorem dX11_init_187 : decode cX11_init 187 = .ok (.bipush 12, 2) := by decide +kernel
theorem dX11_init_189 : decode cX11_init 189 = .ok (.iload_n 1, 1) := by decide +kernel
theorem dX11_init_190 : decode cX11_init 190 = .ok (.iadd, 1) := by decide +kernel
theorem dX11_init_191 : decode cX11_init 191 = .ok (.bipush 10, 2) := by decide +kernel
theorem dX11_init_193 : decode cX11_init 193 = .ok (.iastore, 1) := by decide +kernel
theorem dX11_init_194 : decode cX11_init 194 = .ok (.iinc 1 1, 3) := by decide +kernel
theorem dX11_init_197 : decode cX11_init 197 = .ok (.goto (-20), 3) := by decide +kernel
theorem dX11_init_200 : decode cX11_init 200 = .ok (.return_, 1) := by decide +kernel
theorem dX11_finding_0 : decode cX11_finding 0 = .ok (.aload_n 0, 1) := by decide +kernel
theorem dX11_finding_1 : decode cX11_finding 1 = .ok (.getfield 19, 3) := by decide +kernel
theorem dX11_finding_4 : decode cX11_finding 4 = .ok (.ldc 63, 2) := by decide +kernel
theorem dX11_finding_6 : decode cX11_finding 6 = .ok (.iload_n 1, 1) := by decide +kernel
theorem dX11_finding_7 : decode cX11_finding 7 = .ok (.isub, 1) := by decide +kernel
theorem dX11_finding_8 : decode cX11_finding 8 = .ok (.dup2, 1) := by decide +kernel
theorem dX11_finding_9 : decode cX11_finding 9 = .ok (.iaload, 1) := by decide +kernel
theorem dX11_finding_10 : decode cX11_finding 10 = .ok (.iconst 1, 1) := by decide +kernel
theorem dX11_finding_11 : decode cX11_finding 11 = .ok (.iadd, 1) := by decide +kernel
theorem dX11_finding_12 : decode cX11_finding 12 = .ok (.iastore, 1) := by decide +kernel
theorem dX11_finding_13 : decode cX11_finding 13 = .ok (.iload_n 1, 1) := by decide +kernel
theorem dX11_finding_14 : decode cX11_finding 14 = .ok (.ireturn, 1) := by decide +kernel
theorem dX11_within_0 : decode cX11_within 0 = .ok (.iload_n 0, 1) := by decide +kernel
theorem dX11_within_1 : decode cX11_within 1 = .ok (.iload_n 1, 1) := by decide +kernel
theorem dX11_within_2 : decode cX11_within 2 = .ok (.if_icmp .lt 12, 3) := by decide +kernel
theorem dX11_within_5 : decode cX11_within 5 = .ok (.iload_n 0, 1) := by decide +kernel
theorem dX11_within_6 : decode cX11_within 6 = .ok (.iload_n 2, 1) := by decide +kernel
theorem dX11_within_7 : decode cX11_within 7 = .ok (.if_icmp .gt 7, 3) := by decide +kernel
theorem dX11_within_10 : decode cX11_within 10 = .ok (.iconst 1, 1) := by decide +kernel
theorem dX11_within_11 : decode cX11_within 11 = .ok (.goto 4, 3) := by decide +kernel
theorem dX11_within_14 : decode cX11_within 14 = .ok (.iconst 0, 1) := by decide +kernel
theorem dX11_within_15 : decode cX11_within 15 = .ok (.ireturn, 1) := by decide +kernel
theorem dX11_held_0 : decode cX11_held 0 = .ok (.iload_n 1, 1) := by decide +kernel
theorem dX11_held_1 : decode cX11_held 1 = .ok (.iload_n 2, 1) := by decide +kernel
theorem dX11_held_2 : decode cX11_held 2 = .ok (.iload_n 0, 1) := by decide +kernel
theorem dX11_held_3 : decode cX11_held 3 = .ok (.invokestatic 64, 3) := by decide +kernel
theorem dX11_held_6 : decode cX11_held 6 = .ok (.invokestatic 70, 3) := by decide +kernel
theorem dX11_held_9 : decode cX11_held 9 = .ok (.ireturn, 1) := by decide +kernel
theorem dX11_copy_0 : decode cX11_copy 0 = .ok (.iconst 0, 1) := by decide +kernel
theorem dX11_copy_1 : decode cX11_copy 1 = .ok (.istore_n 2, 1) := by decide +kernel
theorem dX11_copy_2 : decode cX11_copy 2 = .ok (.iload_n 2, 1) := by decide +kernel
theorem dX11_copy_3 : decode cX11_copy 3 = .ok (.sipush 256, 3) := by decide +kernel
theorem dX11_copy_6 : decode cX11_copy 6 = .ok (.if_icmp .ge 15, 3) := by decide +kernel
theorem dX11_copy_9 : decode cX11_copy 9 = .ok (.aload_n 1, 1) := by decide +kernel
theorem dX11_copy_10 : decode cX11_copy 10 = .ok (.iload_n 2, 1) := by decide +kernel
theorem dX11_copy_11 : decode cX11_copy 11 = .ok (.aload_n 0, 1) := by decide +kernel
theorem dX11_copy_12 : decode cX11_copy 12 = .ok (.iload_n 2, 1) := by decide +kernel
theorem dX11_copy_13 : decode cX11_copy 13 = .ok (.iaload, 1) := by decide +kernel
theorem dX11_copy_14 : decode cX11_copy 14 = .ok (.iastore, 1) := by decide +kernel
theorem dX11_copy_15 : decode cX11_copy 15 = .ok (.iinc 2 1, 3) := by decide +kernel
theorem dX11_copy_18 : decode cX11_copy 18 = .ok (.goto (-16), 3) := by decide +kernel
theorem dX11_copy_21 : decode cX11_copy 21 = .ok (.return_, 1) := by decide +kernel
theorem dX11_turn_0 : decode cX11_turn 0 = .ok (.aload_n 0, 1) := by decide +kernel
theorem dX11_turn_1 : decode cX11_turn 1 = .ok (.getfield 9, 3) := by decide +kernel
theorem dX11_turn_4 : decode cX11_turn 4 = .ok (.iload_n 1, 1) := by decide +kernel
theorem dX11_turn_5 : decode cX11_turn 5 = .ok (.iaload, 1) := by decide +kernel
theorem dX11_turn_6 : decode cX11_turn 6 = .ok (.istore_n 3, 1) := by decide +kernel
theorem dX11_turn_7 : decode cX11_turn 7 = .ok (.aload_n 0, 1) := by decide +kernel
theorem dX11_turn_8 : decode cX11_turn 8 = .ok (.getfield 9, 3) := by decide +kernel
theorem dX11_turn_11 : decode cX11_turn 11 = .ok (.iload_n 1, 1) := by decide +kernel
theorem dX11_turn_12 : decode cX11_turn 12 = .ok (.iload_n 2, 1) := by decide +kernel
theorem dX11_turn_13 : decode cX11_turn 13 = .ok (.iastore, 1) := by decide +kernel
theorem dX11_turn_14 : decode cX11_turn 14 = .ok (.iload_n 3, 1) := by decide +kernel
theorem dX11_turn_15 : decode cX11_turn 15 = .ok (.ireturn, 1) := by decide +kernel
theorem dX11_putBack_0 : decode cX11_putBack 0 = .ok (.aload_n 0, 1) := by decide +kernel
theorem dX11_putBack_1 : decode cX11_putBack 1 = .ok (.getfield 16, 3) := by decide +kernel
theorem dX11_putBack_4 : decode cX11_putBack 4 = .ok (.aload_n 0, 1) := by decide +kernel
theorem dX11_putBack_5 : decode cX11_putBack 5 = .ok (.getfield 9, 3) := by decide +kernel
theorem dX11_putBack_8 : decode cX11_putBack 8 = .ok (.invokestatic 73, 3) := by decide +kernel
theorem dX11_putBack_11 : decode cX11_putBack 11 = .ok (.iload_n 1, 1) := by decide +kernel
theorem dX11_putBack_12 : decode cX11_putBack 12 = .ok (.ireturn, 1) := by decide +kernel
theorem dX11_feed_0 : decode cX11_feed 0 = .ok (.iload_n 3, 1) := by decide +kernel
theorem dX11_feed_1 : decode cX11_feed 1 = .ok (.iconst 1, 1) := by decide +kernel
theorem dX11_feed_2 : decode cX11_feed 2 = .ok (.bipush 8, 2) := by decide +kernel
theorem dX11_feed_4 : decode cX11_feed 4 = .ok (.invokestatic 77, 3) := by decide +kernel
theorem dX11_feed_7 : decode cX11_feed 7 = .ok (.ifCond .ne 10, 3) := by decide +kernel
theorem dX11_feed_10 : decode cX11_feed 10 = .ok (.aload_n 0, 1) := by decide +kernel
theorem dX11_feed_11 : decode cX11_feed 11 = .ok (.ldc 81, 2) := by decide +kernel
theorem dX11_feed_13 : decode cX11_feed 13 = .ok (.invokevirtual 82, 3) := by decide +kernel
theorem dX11_feed_16 : decode cX11_feed 16 = .ok (.ireturn, 1) := by decide +kernel
theorem dX11_feed_17 : decode cX11_feed 17 = .ok (.aload_n 0, 1) := by decide +kernel
theorem dX11_feed_18 : decode cX11_feed 18 = .ok (.getfield 9, 3) := by decide +kernel
theorem dX11_feed_21 : decode cX11_feed 21 = .ok (.iconst 4, 1) := by decide +kernel
theorem dX11_feed_22 : decode cX11_feed 22 = .ok (.iaload, 1) := by decide +kernel
theorem dX11_feed_23 : decode cX11_feed 23 = .ok (.iload_n 3, 1) := by decide +kernel
theorem dX11_feed_24 : decode cX11_feed 24 = .ok (.iadd, 1) := by decide +kernel
theorem dX11_feed_25 : decode cX11_feed 25 = .ok (.bipush 50, 2) := by decide +kernel
theorem dX11_feed_27 : decode cX11_feed 27 = .ok (.if_icmp .le 10, 3) := by decide +kernel
theorem dX11_feed_30 : decode cX11_feed 30 = .ok (.aload_n 0, 1) := by decide +kernel
theorem dX11_feed_31 : decode cX11_feed 31 = .ok (.ldc 86, 2) := by decide +kernel
theorem dX11_feed_33 : decode cX11_feed 33 = .ok (.invokevirtual 82, 3) := by decide +kernel
theorem dX11_feed_36 : decode cX11_feed 36 = .ok (.ireturn, 1) := by decide +kernel
theorem dX11_feed_37 : decode cX11_feed 37 = .ok (.iconst 0, 1) := by decide +kernel
theorem dX11_feed_38 : decode cX11_feed 38 = .ok (.istore 4, 2) := by decide +kernel
theorem dX11_feed_40 : decode cX11_feed 40 = .ok (.iload 4, 2) := by decide +kernel
theorem dX11_feed_42 : decode cX11_feed 42 = .ok (.iload_n 3, 1) := by decide +kernel
theorem dX11_feed_43 : decode cX11_feed 43 = .ok (.if_icmp .ge 45, 3) := by decide +kernel
theorem dX11_feed_46 : decode cX11_feed 46 = .ok (.aload_n 0, 1) := by decide +kernel
theorem dX11_feed_47 : decode cX11_feed 47 = .ok (.getfield 9, 3) := by decide +kernel
theorem dX11_feed_50 : decode cX11_feed 50 = .ok (.bipush 82, 2) := by decide +kernel
theorem dX11_feed_52 : decode cX11_feed 52 = .ok (.aload_n 0, 1) := by decide +kernel
theorem dX11_feed_53 : decode cX11_feed 53 = .ok (.getfield 9, 3) := by decide +kernel
theorem dX11_feed_56 : decode cX11_feed 56 = .ok (.iconst 4, 1) := by decide +kernel
theorem dX11_feed_57 : decode cX11_feed 57 = .ok (.iaload, 1) := by decide +kernel
theorem dX11_feed_58 : decode cX11_feed 58 = .ok (.iadd, 1) := by decide +kernel
theorem dX11_feed_59 : decode cX11_feed 59 = .ok (.lload_n 1, 1) := by decide +kernel
theorem dX11_feed_60 : decode cX11_feed 60 = .ok (.bipush 8, 2) := by decide +kernel
theorem dX11_feed_62 : decode cX11_feed 62 = .ok (.iload 4, 2) := by decide +kernel
theorem dX11_feed_64 : decode cX11_feed 64 = .ok (.imul, 1) := by decide +kernel
theorem dX11_feed_65 : decode cX11_feed 65 = .ok (.lshr, 1) := by decide +kernel
theorem dX11_feed_66 : decode cX11_feed 66 = .ok (.ldc2_w 87, 3) := by decide +kernel
theorem dX11_feed_69 : decode cX11_feed 69 = .ok (.land, 1) := by decide +kernel
theorem dX11_feed_70 : decode cX11_feed 70 = .ok (.l2i, 1) := by decide +kernel
theorem dX11_feed_71 : decode cX11_feed 71 = .ok (.iastore, 1) := by decide +kernel
theorem dX11_feed_72 : decode cX11_feed 72 = .ok (.aload_n 0, 1) := by decide +kernel
theorem dX11_feed_73 : decode cX11_feed 73 = .ok (.getfield 9, 3) := by decide +kernel
theorem dX11_feed_76 : decode cX11_feed 76 = .ok (.iconst 4, 1) := by decide +kernel
theorem dX11_feed_77 : decode cX11_feed 77 = .ok (.dup2, 1) := by decide +kernel
theorem dX11_feed_78 : decode cX11_feed 78 = .ok (.iaload, 1) := by decide +kernel
theorem dX11_feed_79 : decode cX11_feed 79 = .ok (.iconst 1, 1) := by decide +kernel
theorem dX11_feed_80 : decode cX11_feed 80 = .ok (.iadd, 1) := by decide +kernel
theorem dX11_feed_81 : decode cX11_feed 81 = .ok (.iastore, 1) := by decide +kernel
theorem dX11_feed_82 : decode cX11_feed 82 = .ok (.iinc 4 1, 3) := by decide +kernel
theorem dX11_feed_85 : decode cX11_feed 85 = .ok (.goto (-45), 3) := by decide +kernel
theorem dX11_feed_88 : decode cX11_feed 88 = .ok (.aload_n 0, 1) := by decide +kernel
theorem dX11_feed_89 : decode cX11_feed 89 = .ok (.getfield 9, 3) := by decide +kernel
theorem dX11_feed_92 : decode cX11_feed 92 = .ok (.iconst 4, 1) := by decide +kernel
theorem dX11_feed_93 : decode cX11_feed 93 = .ok (.iaload, 1) := by decide +kernel
theorem dX11_feed_94 : decode cX11_feed 94 = .ok (.ireturn, 1) := by decide +kernel
theorem dX11_here_0 : decode cX11_here 0 = .ok (.aload_n 0, 1) := by decide +kernel
theorem dX11_here_1 : decode cX11_here 1 = .ok (.getfield 89, 3) := by decide +kernel
theorem dX11_here_4 : decode cX11_here 4 = .ok (.ifCond .ne 31, 3) := by decide +kernel
theorem dX11_here_7 : decode cX11_here 7 = .ok (.aload_n 0, 1) := by decide +kernel
theorem dX11_here_8 : decode cX11_here 8 = .ok (.getfield 93, 3) := by decide +kernel
theorem dX11_here_11 : decode cX11_here 11 = .ok (.aload_n 0, 1) := by decide +kernel
theorem dX11_here_12 : decode cX11_here 12 = .ok (.getfield 9, 3) := by decide +kernel
theorem dX11_here_15 : decode cX11_here 15 = .ok (.iconst 4, 1) := by decide +kernel
theorem dX11_here_16 : decode cX11_here 16 = .ok (.iaload, 1) := by decide +kernel
theorem dX11_here_17 : decode cX11_here 17 = .ok (.if_icmp .ge 18, 3) := by decide +kernel
theorem dX11_here_20 : decode cX11_here 20 = .ok (.aload_n 0, 1) := by decide +kernel
theorem dX11_here_21 : decode cX11_here 21 = .ok (.getfield 9, 3) := by decide +kernel
theorem dX11_here_24 : decode cX11_here 24 = .ok (.bipush 82, 2) := by decide +kernel
theorem dX11_here_26 : decode cX11_here 26 = .ok (.aload_n 0, 1) := by decide +kernel
theorem dX11_here_27 : decode cX11_here 27 = .ok (.getfield 93, 3) := by decide +kernel
theorem dX11_here_30 : decode cX11_here 30 = .ok (.iadd, 1) := by decide +kernel
theorem dX11_here_31 : decode cX11_here 31 = .ok (.iaload, 1) := by decide +kernel
theorem dX11_here_32 : decode cX11_here 32 = .ok (.goto 4, 3) := by decide +kernel
theorem dX11_here_35 : decode cX11_here 35 = .ok (.iconst (-1), 1) := by decide +kernel
theorem dX11_here_36 : decode cX11_here 36 = .ok (.ireturn, 1) := by decide +kernel
theorem dX11_takes_0 : decode cX11_takes 0 = .ok (.aload_n 0, 1) := by decide +kernel
theorem dX11_takes_1 : decode cX11_takes 1 = .ok (.invokevirtual 96, 3) := by decide +kernel
theorem dX11_takes_4 : decode cX11_takes 4 = .ok (.iload_n 1, 1) := by decide +kernel
theorem dX11_takes_5 : decode cX11_takes 5 = .ok (.if_icmp .ne 7, 3) := by decide +kernel
theorem dX11_takes_8 : decode cX11_takes 8 = .ok (.iconst 1, 1) := by decide +kernel
theorem dX11_takes_9 : decode cX11_takes 9 = .ok (.goto 4, 3) := by decide +kernel
theorem dX11_takes_12 : decode cX11_takes 12 = .ok (.iconst 0, 1) := by decide +kernel
theorem dX11_takes_13 : decode cX11_takes 13 = .ok (.istore_n 2, 1) := by decide +kernel
theorem dX11_takes_14 : decode cX11_takes 14 = .ok (.aload_n 0, 1) := by decide +kernel
theorem dX11_takes_15 : decode cX11_takes 15 = .ok (.dup, 1) := by decide +kernel
theorem dX11_takes_16 : decode cX11_takes 16 = .ok (.getfield 93, 3) := by decide +kernel
theorem dX11_takes_19 : decode cX11_takes 19 = .ok (.iload_n 2, 1) := by decide +kernel
theorem dX11_takes_20 : decode cX11_takes 20 = .ok (.ifCond .eq 7, 3) := by decide +kernel
theorem dX11_takes_23 : decode cX11_takes 23 = .ok (.iconst 1, 1) := by decide +kernel
theorem dX11_takes_24 : decode cX11_takes 24 = .ok (.goto 4, 3) := by decide +kernel
theorem dX11_takes_27 : decode cX11_takes 27 = .ok (.iconst 0, 1) := by decide +kernel
theorem dX11_takes_28 : decode cX11_takes 28 = .ok (.iadd, 1) := by decide +kernel
theorem dX11_takes_29 : decode cX11_takes 29 = .ok (.putfield 93, 3) := by decide +kernel
theorem dX11_takes_32 : decode cX11_takes 32 = .ok (.iload_n 2, 1) := by decide +kernel
theorem dX11_takes_33 : decode cX11_takes 33 = .ok (.ireturn, 1) := by decide +kernel
theorem dX11_codes_0 : decode cX11_codes 0 = .ok (.aload_n 0, 1) := by decide +kernel
theorem dX11_codes_1 : decode cX11_codes 1 = .ok (.getfield 89, 3) := by decide +kernel
theorem dX11_codes_4 : decode cX11_codes 4 = .ok (.ifCond .ne 23, 3) := by decide +kernel
theorem dX11_codes_7 : decode cX11_codes 7 = .ok (.aload_n 0, 1) := by decide +kernel
theorem dX11_codes_8 : decode cX11_codes 8 = .ok (.getfield 36, 3) := by decide +kernel
theorem dX11_codes_11 : decode cX11_codes 11 = .ok (.aload_n 0, 1) := by decide +kernel
theorem dX11_codes_12 : decode cX11_codes 12 = .ok (.getfield 100, 3) := by decide +kernel
theorem dX11_codes_15 : decode cX11_codes 15 = .ok (.iload_n 1, 1) := by decide +kernel
theorem dX11_codes_16 : decode cX11_codes 16 = .ok (.iastore, 1) := by decide +kernel
theorem dX11_codes_17 : decode cX11_codes 17 = .ok (.aload_n 0, 1) := by decide +kernel
theorem dX11_codes_18 : decode cX11_codes 18 = .ok (.dup, 1) := by decide +kernel
theorem dX11_codes_19 : decode cX11_codes 19 = .ok (.getfield 100, 3) := by decide +kernel
theorem dX11_codes_22 : decode cX11_codes 22 = .ok (.iconst 1, 1) := by decide +kernel
theorem dX11_codes_23 : decode cX11_codes 23 = .ok (.iadd, 1) := by decide +kernel
theorem dX11_codes_24 : decode cX11_codes 24 = .ok (.putfield 100, 3) := by decide +kernel
theorem dX11_codes_27 : decode cX11_codes 27 = .ok (.return_, 1) := by decide +kernel
theorem dX11_either_0 : decode cX11_either 0 = .ok (.aload_n 0, 1) := by decide +kernel
theorem dX11_either_1 : decode cX11_either 1 = .ok (.invokevirtual 103, 3) := by decide +kernel
theorem dX11_either_4 : decode cX11_either 4 = .ok (.aload_n 0, 1) := by decide +kernel
theorem dX11_either_5 : decode cX11_either 5 = .ok (.bipush 124, 2) := by decide +kernel
theorem dX11_either_7 : decode cX11_either 7 = .ok (.invokevirtual 106, 3) := by decide +kernel
theorem dX11_either_10 : decode cX11_either 10 = .ok (.ifCond .eq 17, 3) := by decide +kernel
theorem dX11_either_13 : decode cX11_either 13 = .ok (.aload_n 0, 1) := by decide +kernel
theorem dX11_either_14 : decode cX11_either 14 = .ok (.invokevirtual 103, 3) := by decide +kernel
theorem dX11_either_17 : decode cX11_either 17 = .ok (.aload_n 0, 1) := by decide +kernel
theorem dX11_either_18 : decode cX11_either 18 = .ok (.sipush 20000, 3) := by decide +kernel
theorem dX11_either_21 : decode cX11_either 21 = .ok (.invokevirtual 110, 3) := by decide +kernel
theorem dX11_either_24 : decode cX11_either 24 = .ok (.goto (-20), 3) := by decide +kernel
theorem dX11_either_27 : decode cX11_either 27 = .ok (.return_, 1) := by decide +kernel
theorem dX11_both_0 : decode cX11_both 0 = .ok (.aload_n 0, 1) := by decide +kernel
theorem dX11_both_1 : decode cX11_both 1 = .ok (.invokevirtual 114, 3) := by decide +kernel
theorem dX11_both_4 : decode cX11_both 4 = .ok (.aload_n 0, 1) := by decide +kernel
theorem dX11_both_5 : decode cX11_both 5 = .ok (.bipush 38, 2) := by decide +kernel
theorem dX11_both_7 : decode cX11_both 7 = .ok (.invokevirtual 106, 3) := by decide +kernel
theorem dX11_both_10 : decode cX11_both 10 = .ok (.ifCond .eq 17, 3) := by decide +kernel
theorem dX11_both_13 : decode cX11_both 13 = .ok (.aload_n 0, 1) := by decide +kernel
theorem dX11_both_14 : decode cX11_both 14 = .ok (.invokevirtual 114, 3) := by decide +kernel
theorem dX11_both_17 : decode cX11_both 17 = .ok (.aload_n 0, 1) := by decide +kernel
theorem dX11_both_18 : decode cX11_both 18 = .ok (.sipush 20001, 3) := by decide +kernel
theorem dX11_both_21 : decode cX11_both 21 = .ok (.invokevirtual 110, 3) := by decide +kernel
theorem dX11_both_24 : decode cX11_both 24 = .ok (.goto (-20), 3) := by decide +kernel
theorem dX11_both_27 : decode cX11_both 27 = .ok (.return_, 1) := by decide +kernel
theorem dX11_compared_0 : decode cX11_compared 0 = .ok (.aload_n 0, 1) := by decide +kernel
theorem dX11_compared_1 : decode cX11_compared 1 = .ok (.invokevirtual 117, 3) := by decide +kernel
theorem dX11_compared_4 : decode cX11_compared 4 = .ok (.aload_n 0, 1) := by decide +kernel
theorem dX11_compared_5 : decode cX11_compared 5 = .ok (.bipush 60, 2) := by decide +kernel
theorem dX11_compared_7 : decode cX11_compared 7 = .ok (.invokevirtual 106, 3) := by decide +kernel
theorem dX11_compared_10 : decode cX11_compared 10 = .ok (.ifCond .eq 9, 3) := by decide +kernel
theorem dX11_compared_13 : decode cX11_compared 13 = .ok (.sipush 20002, 3) := by decide +kernel
theorem dX11_compared_16 : decode cX11_compared 16 = .ok (.goto 34, 3) := by decide +kernel
theorem dX11_compared_19 : decode cX11_compared 19 = .ok (.aload_n 0, 1) := by decide +kernel
theorem dX11_compared_20 : decode cX11_compared 20 = .ok (.bipush 61, 2) := by decide +kernel
theorem dX11_compared_22 : decode cX11_compared 22 = .ok (.invokevirtual 106, 3) := by decide +kernel
theorem dX11_compared_25 : decode cX11_compared 25 = .ok (.ifCond .eq 9, 3) := by decide +kernel
theorem dX11_compared_28 : decode cX11_compared 28 = .ok (.sipush 20003, 3) := by decide +kernel
theorem dX11_compared_31 : decode cX11_compared 31 = .ok (.goto 19, 3) := by decide +kernel
theorem dX11_compared_34 : decode cX11_compared 34 = .ok (.aload_n 0, 1) := by decide +kernel
theorem dX11_compared_35 : decode cX11_compared 35 = .ok (.bipush 62, 2) := by decide +kernel
theorem dX11_compared_37 : decode cX11_compared 37 = .ok (.invokevirtual 106, 3) := by decide +kernel
theorem dX11_compared_40 : decode cX11_compared 40 = .ok (.ifCond .eq 9, 3) := by decide +kernel
theorem dX11_compared_43 : decode cX11_compared 43 = .ok (.sipush 20004, 3) := by decide +kernel
theorem dX11_compared_46 : decode cX11_compared 46 = .ok (.goto 4, 3) := by decide +kernel
theorem dX11_compared_49 : decode cX11_compared 49 = .ok (.iconst 0, 1) := by decide +kernel
theorem dX11_compared_50 : decode cX11_compared 50 = .ok (.istore_n 1, 1) := by decide +kernel
theorem dX11_compared_51 : decode cX11_compared 51 = .ok (.iload_n 1, 1) := by decide +kernel
theorem dX11_compared_52 : decode cX11_compared 52 = .ok (.ifCond .le 12, 3) := by decide +kernel
theorem dX11_compared_55 : decode cX11_compared 55 = .ok (.aload_n 0, 1) := by decide +kernel
theorem dX11_compared_56 : decode cX11_compared 56 = .ok (.invokevirtual 117, 3) := by decide +kernel
theorem dX11_compared_59 : decode cX11_compared 59 = .ok (.aload_n 0, 1) := by decide +kernel
theorem dX11_compared_60 : decode cX11_compared 60 = .ok (.iload_n 1, 1) := by decide +kernel
theorem dX11_compared_61 : decode cX11_compared 61 = .ok (.invokevirtual 110, 3) := by decide +kernel
theorem dX11_compared_64 : decode cX11_compared 64 = .ok (.return_, 1) := by decide +kernel
theorem dX11_sum_0 : decode cX11_sum 0 = .ok (.aload_n 0, 1) := by decide +kernel
theorem dX11_sum_1 : decode cX11_sum 1 = .ok (.invokevirtual 120, 3) := by decide +kernel
theorem dX11_sum_4 : decode cX11_sum 4 = .ok (.aload_n 0, 1) := by decide +kernel
theorem dX11_sum_5 : decode cX11_sum 5 = .ok (.bipush 43, 2) := by decide +kernel
theorem dX11_sum_7 : decode cX11_sum 7 = .ok (.invokevirtual 106, 3) := by decide +kernel
theorem dX11_sum_10 : decode cX11_sum 10 = .ok (.ifCond .eq 9, 3) := by decide +kernel
theorem dX11_sum_13 : decode cX11_sum 13 = .ok (.sipush 20005, 3) := by decide +kernel
theorem dX11_sum_16 : decode cX11_sum 16 = .ok (.goto 19, 3) := by decide +kernel
theorem dX11_sum_19 : decode cX11_sum 19 = .ok (.aload_n 0, 1) := by decide +kernel
theorem dX11_sum_20 : decode cX11_sum 20 = .ok (.bipush 45, 2) := by decide +kernel
theorem dX11_sum_22 : decode cX11_sum 22 = .ok (.invokevirtual 106, 3) := by decide +kernel
theorem dX11_sum_25 : decode cX11_sum 25 = .ok (.ifCond .eq 9, 3) := by decide +kernel
theorem dX11_sum_28 : decode cX11_sum 28 = .ok (.sipush 20006, 3) := by decide +kernel
theorem dX11_sum_31 : decode cX11_sum 31 = .ok (.goto 4, 3) := by decide +kernel
theorem dX11_sum_34 : decode cX11_sum 34 = .ok (.iconst 0, 1) := by decide +kernel
theorem dX11_sum_35 : decode cX11_sum 35 = .ok (.istore_n 1, 1) := by decide +kernel
theorem dX11_sum_36 : decode cX11_sum 36 = .ok (.iload_n 1, 1) := by decide +kernel
theorem dX11_sum_37 : decode cX11_sum 37 = .ok (.ifCond .le 47, 3) := by decide +kernel
theorem dX11_sum_40 : decode cX11_sum 40 = .ok (.aload_n 0, 1) := by decide +kernel
theorem dX11_sum_41 : decode cX11_sum 41 = .ok (.invokevirtual 120, 3) := by decide +kernel
theorem dX11_sum_44 : decode cX11_sum 44 = .ok (.aload_n 0, 1) := by decide +kernel
theorem dX11_sum_45 : decode cX11_sum 45 = .ok (.iload_n 1, 1) := by decide +kernel
theorem dX11_sum_46 : decode cX11_sum 46 = .ok (.invokevirtual 110, 3) := by decide +kernel
theorem dX11_sum_49 : decode cX11_sum 49 = .ok (.aload_n 0, 1) := by decide +kernel
theorem dX11_sum_50 : decode cX11_sum 50 = .ok (.bipush 43, 2) := by decide +kernel
theorem dX11_sum_52 : decode cX11_sum 52 = .ok (.invokevirtual 106, 3) := by decide +kernel
theorem dX11_sum_55 : decode cX11_sum 55 = .ok (.ifCond .eq 9, 3) := by decide +kernel
theorem dX11_sum_58 : decode cX11_sum 58 = .ok (.sipush 20005, 3) := by decide +kernel
theorem dX11_sum_61 : decode cX11_sum 61 = .ok (.goto 19, 3) := by decide +kernel
theorem dX11_sum_64 : decode cX11_sum 64 = .ok (.aload_n 0, 1) := by decide +kernel
theorem dX11_sum_65 : decode cX11_sum 65 = .ok (.bipush 45, 2) := by decide +kernel
theorem dX11_sum_67 : decode cX11_sum 67 = .ok (.invokevirtual 106, 3) := by decide +kernel
theorem dX11_sum_70 : decode cX11_sum 70 = .ok (.ifCond .eq 9, 3) := by decide +kernel
theorem dX11_sum_73 : decode cX11_sum 73 = .ok (.sipush 20006, 3) := by decide +kernel
theorem dX11_sum_76 : decode cX11_sum 76 = .ok (.goto 4, 3) := by decide +kernel
theorem dX11_sum_79 : decode cX11_sum 79 = .ok (.iconst 0, 1) := by decide +kernel
theorem dX11_sum_80 : decode cX11_sum 80 = .ok (.istore_n 1, 1) := by decide +kernel
theorem dX11_sum_81 : decode cX11_sum 81 = .ok (.goto (-45), 3) := by decide +kernel
theorem dX11_sum_84 : decode cX11_sum 84 = .ok (.return_, 1) := by decide +kernel
theorem dX11_product_0 : decode cX11_product 0 = .ok (.aload_n 0, 1) := by decide +kernel
theorem dX11_product_1 : decode cX11_product 1 = .ok (.invokevirtual 123, 3) := by decide +kernel
theorem dX11_product_4 : decode cX11_product 4 = .ok (.aload_n 0, 1) := by decide +kernel
theorem dX11_product_5 : decode cX11_product 5 = .ok (.bipush 42, 2) := by decide +kernel
theorem dX11_product_7 : decode cX11_product 7 = .ok (.invokevirtual 106, 3) := by decide +kernel
theorem dX11_product_10 : decode cX11_product 10 = .ok (.ifCond .eq 9, 3) := by decide +kernel
theorem dX11_product_13 : decode cX11_product 13 = .ok (.sipush 20007, 3) := by decide +kernel
theorem dX11_product_16 : decode cX11_product 16 = .ok (.goto 34, 3) := by decide +kernel
theorem dX11_product_19 : decode cX11_product 19 = .ok (.aload_n 0, 1) := by decide +kernel
theorem dX11_product_20 : decode cX11_product 20 = .ok (.bipush 47, 2) := by decide +kernel
theorem dX11_product_22 : decode cX11_product 22 = .ok (.invokevirtual 106, 3) := by decide +kernel
theorem dX11_product_25 : decode cX11_product 25 = .ok (.ifCond .eq 9, 3) := by decide +kernel
theorem dX11_product_28 : decode cX11_product 28 = .ok (.sipush 20008, 3) := by decide +kernel
theorem dX11_product_31 : decode cX11_product 31 = .ok (.goto 19, 3) := by decide +kernel
theorem dX11_product_34 : decode cX11_product 34 = .ok (.aload_n 0, 1) := by decide +kernel
theorem dX11_product_35 : decode cX11_product 35 = .ok (.bipush 37, 2) := by decide +kernel
theorem dX11_product_37 : decode cX11_product 37 = .ok (.invokevirtual 106, 3) := by decide +kernel
theorem dX11_product_40 : decode cX11_product 40 = .ok (.ifCond .eq 9, 3) := by decide +kernel
theorem dX11_product_43 : decode cX11_product 43 = .ok (.sipush 20009, 3) := by decide +kernel
theorem dX11_product_46 : decode cX11_product 46 = .ok (.goto 4, 3) := by decide +kernel
theorem dX11_product_49 : decode cX11_product 49 = .ok (.iconst 0, 1) := by decide +kernel
theorem dX11_product_50 : decode cX11_product 50 = .ok (.istore_n 1, 1) := by decide +kernel
theorem dX11_product_51 : decode cX11_product 51 = .ok (.iload_n 1, 1) := by decide +kernel
theorem dX11_product_52 : decode cX11_product 52 = .ok (.ifCond .le 62, 3) := by decide +kernel
theorem dX11_product_55 : decode cX11_product 55 = .ok (.aload_n 0, 1) := by decide +kernel
theorem dX11_product_56 : decode cX11_product 56 = .ok (.invokevirtual 123, 3) := by decide +kernel
theorem dX11_product_59 : decode cX11_product 59 = .ok (.aload_n 0, 1) := by decide +kernel
theorem dX11_product_60 : decode cX11_product 60 = .ok (.iload_n 1, 1) := by decide +kernel
theorem dX11_product_61 : decode cX11_product 61 = .ok (.invokevirtual 110, 3) := by decide +kernel
theorem dX11_product_64 : decode cX11_product 64 = .ok (.aload_n 0, 1) := by decide +kernel
theorem dX11_product_65 : decode cX11_product 65 = .ok (.bipush 42, 2) := by decide +kernel
theorem dX11_product_67 : decode cX11_product 67 = .ok (.invokevirtual 106, 3) := by decide +kernel
theorem dX11_product_70 : decode cX11_product 70 = .ok (.ifCond .eq 9, 3) := by decide +kernel
theorem dX11_product_73 : decode cX11_product 73 = .ok (.sipush 20007, 3) := by decide +kernel
theorem dX11_product_76 : decode cX11_product 76 = .ok (.goto 34, 3) := by decide +kernel
theorem dX11_product_79 : decode cX11_product 79 = .ok (.aload_n 0, 1) := by decide +kernel
theorem dX11_product_80 : decode cX11_product 80 = .ok (.bipush 47, 2) := by decide +kernel
theorem dX11_product_82 : decode cX11_product 82 = .ok (.invokevirtual 106, 3) := by decide +kernel
theorem dX11_product_85 : decode cX11_product 85 = .ok (.ifCond .eq 9, 3) := by decide +kernel
theorem dX11_product_88 : decode cX11_product 88 = .ok (.sipush 20008, 3) := by decide +kernel
theorem dX11_product_91 : decode cX11_product 91 = .ok (.goto 19, 3) := by decide +kernel
theorem dX11_product_94 : decode cX11_product 94 = .ok (.aload_n 0, 1) := by decide +kernel
theorem dX11_product_95 : decode cX11_product 95 = .ok (.bipush 37, 2) := by decide +kernel
theorem dX11_product_97 : decode cX11_product 97 = .ok (.invokevirtual 106, 3) := by decide +kernel
theorem dX11_product_100 : decode cX11_product 100 = .ok (.ifCond .eq 9, 3) := by decide +kernel
theorem dX11_product_103 : decode cX11_product 103 = .ok (.sipush 20009, 3) := by decide +kernel
theorem dX11_product_106 : decode cX11_product 106 = .ok (.goto 4, 3) := by decide +kernel
theorem dX11_product_109 : decode cX11_product 109 = .ok (.iconst 0, 1) := by decide +kernel
theorem dX11_product_110 : decode cX11_product 110 = .ok (.istore_n 1, 1) := by decide +kernel
theorem dX11_product_111 : decode cX11_product 111 = .ok (.goto (-60), 3) := by decide +kernel
theorem dX11_product_114 : decode cX11_product 114 = .ok (.return_, 1) := by decide +kernel
theorem dX11_nameOf_0 : decode cX11_nameOf 0 = .ok (.iconst (-1), 1) := by decide +kernel
theorem dX11_nameOf_1 : decode cX11_nameOf 1 = .ok (.istore_n 2, 1) := by decide +kernel
theorem dX11_nameOf_2 : decode cX11_nameOf 2 = .ok (.iconst 0, 1) := by decide +kernel
theorem dX11_nameOf_3 : decode cX11_nameOf 3 = .ok (.istore_n 3, 1) := by decide +kernel
theorem dX11_nameOf_4 : decode cX11_nameOf 4 = .ok (.iload_n 3, 1) := by decide +kernel
theorem dX11_nameOf_5 : decode cX11_nameOf 5 = .ok (.aload_n 0, 1) := by decide +kernel
theorem dX11_nameOf_6 : decode cX11_nameOf 6 = .ok (.getfield 32, 3) := by decide +kernel
theorem dX11_nameOf_9 : decode cX11_nameOf 9 = .ok (.aload_n 0, 1) := by decide +kernel
theorem dX11_nameOf_10 : decode cX11_nameOf 10 = .ok (.getfield 126, 3) := by decide +kernel
theorem dX11_nameOf_13 : decode cX11_nameOf 13 = .ok (.aaload, 1) := by decide +kernel
theorem dX11_nameOf_14 : decode cX11_nameOf 14 = .ok (.invokevirtual 129, 3) := by decide +kernel
theorem dX11_nameOf_17 : decode cX11_nameOf 17 = .ok (.if_icmp .ge 32, 3) := by decide +kernel
theorem dX11_nameOf_20 : decode cX11_nameOf 20 = .ok (.aload_n 0, 1) := by decide +kernel
theorem dX11_nameOf_21 : decode cX11_nameOf 21 = .ok (.getfield 32, 3) := by decide +kernel
theorem dX11_nameOf_24 : decode cX11_nameOf 24 = .ok (.aload_n 0, 1) := by decide +kernel
theorem dX11_nameOf_25 : decode cX11_nameOf 25 = .ok (.getfield 126, 3) := by decide +kernel
theorem dX11_nameOf_28 : decode cX11_nameOf 28 = .ok (.aaload, 1) := by decide +kernel
theorem dX11_nameOf_29 : decode cX11_nameOf 29 = .ok (.iload_n 3, 1) := by decide +kernel
theorem dX11_nameOf_30 : decode cX11_nameOf 30 = .ok (.invokevirtual 132, 3) := by decide +kernel
theorem dX11_nameOf_33 : decode cX11_nameOf 33 = .ok (.iload_n 1, 1) := by decide +kernel
theorem dX11_nameOf_34 : decode cX11_nameOf 34 = .ok (.if_icmp .ne 7, 3) := by decide +kernel
theorem dX11_nameOf_37 : decode cX11_nameOf 37 = .ok (.iload_n 3, 1) := by decide +kernel
theorem dX11_nameOf_38 : decode cX11_nameOf 38 = .ok (.goto 4, 3) := by decide +kernel
theorem dX11_nameOf_41 : decode cX11_nameOf 41 = .ok (.iload_n 2, 1) := by decide +kernel
theorem dX11_nameOf_42 : decode cX11_nameOf 42 = .ok (.istore_n 2, 1) := by decide +kernel
theorem dX11_nameOf_43 : decode cX11_nameOf 43 = .ok (.iinc 3 1, 3) := by decide +kernel
theorem dX11_nameOf_46 : decode cX11_nameOf 46 = .ok (.goto (-42), 3) := by decide +kernel
theorem dX11_nameOf_49 : decode cX11_nameOf 49 = .ok (.iload_n 2, 1) := by decide +kernel
theorem dX11_nameOf_50 : decode cX11_nameOf 50 = .ok (.ireturn, 1) := by decide +kernel
theorem dX11_one_0 : decode cX11_one 0 = .ok (.aload_n 0, 1) := by decide +kernel
theorem dX11_one_1 : decode cX11_one 1 = .ok (.invokevirtual 96, 3) := by decide +kernel
theorem dX11_one_4 : decode cX11_one 4 = .ok (.istore_n 1, 1) := by decide +kernel
theorem dX11_one_5 : decode cX11_one 5 = .ok (.iload_n 1, 1) := by decide +kernel
theorem dX11_one_6 : decode cX11_one 6 = .ok (.bipush 33, 2) := by decide +kernel
theorem dX11_one_8 : decode cX11_one 8 = .ok (.if_icmp .eq 9, 3) := by decide +kernel
theorem dX11_one_11 : decode cX11_one 11 = .ok (.iload_n 1, 1) := by decide +kernel
theorem dX11_one_12 : decode cX11_one 12 = .ok (.bipush 40, 2) := by decide +kernel
theorem dX11_one_14 : decode cX11_one 14 = .ok (.if_icmp .ne 102, 3) := by decide +kernel
theorem dX11_one_17 : decode cX11_one 17 = .ok (.aload_n 0, 1) := by decide +kernel
theorem dX11_one_18 : decode cX11_one 18 = .ok (.aload_n 0, 1) := by decide +kernel
theorem dX11_one_19 : decode cX11_one 19 = .ok (.getfield 136, 3) := by decide +kernel
theorem dX11_one_22 : decode cX11_one 22 = .ok (.iconst 5, 1) := by decide +kernel
theorem dX11_one_23 : decode cX11_one 23 = .ok (.if_icmp .ne 7, 3) := by decide +kernel
theorem dX11_one_26 : decode cX11_one 26 = .ok (.iconst 1, 1) := by decide +kernel
theorem dX11_one_27 : decode cX11_one 27 = .ok (.goto 4, 3) := by decide +kernel
theorem dX11_one_30 : decode cX11_one 30 = .ok (.iconst 0, 1) := by decide +kernel
theorem dX11_one_31 : decode cX11_one 31 = .ok (.putfield 89, 3) := by decide +kernel
theorem dX11_one_34 : decode cX11_one 34 = .ok (.aload_n 0, 1) := by decide +kernel
theorem dX11_one_35 : decode cX11_one 35 = .ok (.getfield 89, 3) := by decide +kernel
theorem dX11_one_38 : decode cX11_one 38 = .ok (.ifCond .ne 209, 3) := by decide +kernel
theorem dX11_one_41 : decode cX11_one 41 = .ok (.aload_n 0, 1) := by decide +kernel
theorem dX11_one_42 : decode cX11_one 42 = .ok (.dup, 1) := by decide +kernel
theorem dX11_one_43 : decode cX11_one 43 = .ok (.getfield 136, 3) := by decide +kernel
theorem dX11_one_46 : decode cX11_one 46 = .ok (.iconst 1, 1) := by decide +kernel
theorem dX11_one_47 : decode cX11_one 47 = .ok (.iadd, 1) := by decide +kernel
theorem dX11_one_48 : decode cX11_one 48 = .ok (.putfield 136, 3) := by decide +kernel
theorem dX11_one_51 : decode cX11_one 51 = .ok (.aload_n 0, 1) := by decide +kernel
theorem dX11_one_52 : decode cX11_one 52 = .ok (.dup, 1) := by decide +kernel
theorem dX11_one_53 : decode cX11_one 53 = .ok (.getfield 93, 3) := by decide +kernel
theorem dX11_one_56 : decode cX11_one 56 = .ok (.iconst 1, 1) := by decide +kernel
theorem dX11_one_57 : decode cX11_one 57 = .ok (.iadd, 1) := by decide +kernel
theorem dX11_one_58 : decode cX11_one 58 = .ok (.putfield 93, 3) := by decide +kernel
theorem dX11_one_61 : decode cX11_one 61 = .ok (.iload_n 1, 1) := by decide +kernel
theorem dX11_one_62 : decode cX11_one 62 = .ok (.bipush 33, 2) := by decide +kernel
theorem dX11_one_64 : decode cX11_one 64 = .ok (.if_icmp .ne 17, 3) := by decide +kernel
theorem dX11_one_67 : decode cX11_one 67 = .ok (.aload_n 0, 1) := by decide +kernel
theorem dX11_one_68 : decode cX11_one 68 = .ok (.invokevirtual 123, 3) := by decide +kernel
theorem dX11_one_71 : decode cX11_one 71 = .ok (.aload_n 0, 1) := by decide +kernel
theorem dX11_one_72 : decode cX11_one 72 = .ok (.sipush 20010, 3) := by decide +kernel
theorem dX11_one_75 : decode cX11_one 75 = .ok (.invokevirtual 110, 3) := by decide +kernel
theorem dX11_one_78 : decode cX11_one 78 = .ok (.goto 25, 3) := by decide +kernel
theorem dX11_one_81 : decode cX11_one 81 = .ok (.aload_n 0, 1) := by decide +kernel
theorem dX11_one_82 : decode cX11_one 82 = .ok (.invokevirtual 139, 3) := by decide +kernel
theorem dX11_one_85 : decode cX11_one 85 = .ok (.aload_n 0, 1) := by decide +kernel
theorem dX11_one_86 : decode cX11_one 86 = .ok (.aload_n 0, 1) := by decide +kernel
theorem dX11_one_87 : decode cX11_one 87 = .ok (.bipush 41, 2) := by decide +kernel
theorem dX11_one_89 : decode cX11_one 89 = .ok (.invokevirtual 106, 3) := by decide +kernel
theorem dX11_one_92 : decode cX11_one 92 = .ok (.ifCond .ne 7, 3) := by decide +kernel
theorem dX11_one_95 : decode cX11_one 95 = .ok (.iconst 1, 1) := by decide +kernel
theorem dX11_one_96 : decode cX11_one 96 = .ok (.goto 4, 3) := by decide +kernel
theorem dX11_one_99 : decode cX11_one 99 = .ok (.iconst 0, 1) := by decide +kernel
theorem dX11_one_100 : decode cX11_one 100 = .ok (.putfield 89, 3) := by decide +kernel
theorem dX11_one_103 : decode cX11_one 103 = .ok (.aload_n 0, 1) := by decide +kernel
theorem dX11_one_104 : decode cX11_one 104 = .ok (.dup, 1) := by decide +kernel
theorem dX11_one_105 : decode cX11_one 105 = .ok (.getfield 136, 3) := by decide +kernel
theorem dX11_one_108 : decode cX11_one 108 = .ok (.iconst 1, 1) := by decide +kernel
theorem dX11_one_109 : decode cX11_one 109 = .ok (.isub, 1) := by decide +kernel
theorem dX11_one_110 : decode cX11_one 110 = .ok (.putfield 136, 3) := by decide +kernel
theorem dX11_one_113 : decode cX11_one 113 = .ok (.goto 134, 3) := by decide +kernel
theorem dX11_one_116 : decode cX11_one 116 = .ok (.iload_n 1, 1) := by decide +kernel
theorem dX11_one_117 : decode cX11_one 117 = .ok (.bipush 48, 2) := by decide +kernel
theorem dX11_one_119 : decode cX11_one 119 = .ok (.bipush 57, 2) := by decide +kernel
theorem dX11_one_121 : decode cX11_one 121 = .ok (.invokestatic 77, 3) := by decide +kernel
theorem dX11_one_124 : decode cX11_one 124 = .ok (.ifCond .eq 63, 3) := by decide +kernel
theorem dX11_one_127 : decode cX11_one 127 = .ok (.iconst 0, 1) := by decide +kernel
theorem dX11_one_128 : decode cX11_one 128 = .ok (.istore_n 2, 1) := by decide +kernel
theorem dX11_one_129 : decode cX11_one 129 = .ok (.iconst 0, 1) := by decide +kernel
theorem dX11_one_130 : decode cX11_one 130 = .ok (.istore_n 3, 1) := by decide +kernel
theorem dX11_one_131 : decode cX11_one 131 = .ok (.iload_n 3, 1) := by decide +kernel
theorem dX11_one_132 : decode cX11_one 132 = .ok (.iconst 4, 1) := by decide +kernel
theorem dX11_one_133 : decode cX11_one 133 = .ok (.if_icmp .ge 46, 3) := by decide +kernel
theorem dX11_one_136 : decode cX11_one 136 = .ok (.aload_n 0, 1) := by decide +kernel
theorem dX11_one_137 : decode cX11_one 137 = .ok (.invokevirtual 96, 3) := by decide +kernel
theorem dX11_one_140 : decode cX11_one 140 = .ok (.bipush 48, 2) := by decide +kernel
theorem dX11_one_142 : decode cX11_one 142 = .ok (.bipush 57, 2) := by decide +kernel
theorem dX11_one_144 : decode cX11_one 144 = .ok (.invokestatic 77, 3) := by decide +kernel
theorem dX11_one_147 : decode cX11_one 147 = .ok (.ifCond .eq 32, 3) := by decide +kernel
theorem dX11_one_150 : decode cX11_one 150 = .ok (.bipush 10, 2) := by decide +kernel
theorem dX11_one_152 : decode cX11_one 152 = .ok (.iload_n 2, 1) := by decide +kernel
theorem dX11_one_153 : decode cX11_one 153 = .ok (.imul, 1) := by decide +kernel
theorem dX11_one_154 : decode cX11_one 154 = .ok (.aload_n 0, 1) := by decide +kernel
theorem dX11_one_155 : decode cX11_one 155 = .ok (.invokevirtual 96, 3) := by decide +kernel
theorem dX11_one_158 : decode cX11_one 158 = .ok (.iadd, 1) := by decide +kernel
theorem dX11_one_159 : decode cX11_one 159 = .ok (.bipush 48, 2) := by decide +kernel
theorem dX11_one_161 : decode cX11_one 161 = .ok (.isub, 1) := by decide +kernel
theorem dX11_one_162 : decode cX11_one 162 = .ok (.istore_n 2, 1) := by decide +kernel
theorem dX11_one_163 : decode cX11_one 163 = .ok (.aload_n 0, 1) := by decide +kernel
theorem dX11_one_164 : decode cX11_one 164 = .ok (.dup, 1) := by decide +kernel
theorem dX11_one_165 : decode cX11_one 165 = .ok (.getfield 93, 3) := by decide +kernel
theorem dX11_one_168 : decode cX11_one 168 = .ok (.iconst 1, 1) := by decide +kernel
theorem dX11_one_169 : decode cX11_one 169 = .ok (.iadd, 1) := by decide +kernel
theorem dX11_one_170 : decode cX11_one 170 = .ok (.putfield 93, 3) := by decide +kernel
theorem dX11_one_173 : decode cX11_one 173 = .ok (.iinc 3 1, 3) := by decide +kernel
theorem dX11_one_176 : decode cX11_one 176 = .ok (.goto (-45), 3) := by decide +kernel
theorem dX11_one_179 : decode cX11_one 179 = .ok (.aload_n 0, 1) := by decide +kernel
theorem dX11_one_180 : decode cX11_one 180 = .ok (.iload_n 2, 1) := by decide +kernel
theorem dX11_one_181 : decode cX11_one 181 = .ok (.invokevirtual 110, 3) := by decide +kernel
theorem dX11_one_184 : decode cX11_one 184 = .ok (.goto 63, 3) := by decide +kernel
theorem dX11_one_187 : decode cX11_one 187 = .ok (.iload_n 1, 1) := by decide +kernel
theorem dX11_one_188 : decode cX11_one 188 = .ok (.ifCond .ge 7, 3) := by decide +kernel
theorem dX11_one_191 : decode cX11_one 191 = .ok (.iconst (-1), 1) := by decide +kernel
theorem dX11_one_192 : decode cX11_one 192 = .ok (.goto 8, 3) := by decide +kernel
theorem dX11_one_195 : decode cX11_one 195 = .ok (.aload_n 0, 1) := by decide +kernel
theorem dX11_one_196 : decode cX11_one 196 = .ok (.iload_n 1, 1) := by decide +kernel
theorem dX11_one_197 : decode cX11_one 197 = .ok (.invokevirtual 142, 3) := by decide +kernel
theorem dX11_one_200 : decode cX11_one 200 = .ok (.istore_n 2, 1) := by decide +kernel
theorem dX11_one_201 : decode cX11_one 201 = .ok (.aload_n 0, 1) := by decide +kernel
theorem dX11_one_202 : decode cX11_one 202 = .ok (.aload_n 0, 1) := by decide +kernel
theorem dX11_one_203 : decode cX11_one 203 = .ok (.getfield 89, 3) := by decide +kernel
theorem dX11_one_206 : decode cX11_one 206 = .ok (.ifCond .ne 7, 3) := by decide +kernel
theorem dX11_one_209 : decode cX11_one 209 = .ok (.iload_n 2, 1) := by decide +kernel
theorem dX11_one_210 : decode cX11_one 210 = .ok (.ifCond .ge 7, 3) := by decide +kernel
theorem dX11_one_213 : decode cX11_one 213 = .ok (.iconst 1, 1) := by decide +kernel
theorem dX11_one_214 : decode cX11_one 214 = .ok (.goto 4, 3) := by decide +kernel
theorem dX11_one_217 : decode cX11_one 217 = .ok (.iconst 0, 1) := by decide +kernel
theorem dX11_one_218 : decode cX11_one 218 = .ok (.putfield 89, 3) := by decide +kernel
theorem dX11_one_221 : decode cX11_one 221 = .ok (.aload_n 0, 1) := by decide +kernel
theorem dX11_one_222 : decode cX11_one 222 = .ok (.getfield 89, 3) := by decide +kernel
theorem dX11_one_225 : decode cX11_one 225 = .ok (.ifCond .ne 22, 3) := by decide +kernel
theorem dX11_one_228 : decode cX11_one 228 = .ok (.aload_n 0, 1) := by decide +kernel
theorem dX11_one_229 : decode cX11_one 229 = .ok (.sipush 10000, 3) := by decide +kernel
theorem dX11_one_232 : decode cX11_one 232 = .ok (.iload_n 2, 1) := by decide +kernel
theorem dX11_one_233 : decode cX11_one 233 = .ok (.iadd, 1) := by decide +kernel
theorem dX11_one_234 : decode cX11_one 234 = .ok (.invokevirtual 110, 3) := by decide +kernel
theorem dX11_one_237 : decode cX11_one 237 = .ok (.aload_n 0, 1) := by decide +kernel
theorem dX11_one_238 : decode cX11_one 238 = .ok (.dup, 1) := by decide +kernel
theorem dX11_one_239 : decode cX11_one 239 = .ok (.getfield 93, 3) := by decide +kernel
theorem dX11_one_242 : decode cX11_one 242 = .ok (.iconst 1, 1) := by decide +kernel
theorem dX11_one_243 : decode cX11_one 243 = .ok (.iadd, 1) := by decide +kernel
theorem dX11_one_244 : decode cX11_one 244 = .ok (.putfield 93, 3) := by decide +kernel
theorem dX11_one_247 : decode cX11_one 247 = .ok (.return_, 1) := by decide +kernel
theorem dX11_text_0 : decode cX11_text 0 = .ok (.iload_n 1, 1) := by decide +kernel
theorem dX11_text_1 : decode cX11_text 1 = .ok (.iconst 0, 1) := by decide +kernel
theorem dX11_text_2 : decode cX11_text 2 = .ok (.iconst 1, 1) := by decide +kernel
theorem dX11_text_3 : decode cX11_text 3 = .ok (.invokestatic 77, 3) := by decide +kernel
theorem dX11_text_6 : decode cX11_text 6 = .ok (.ifCond .ne 10, 3) := by decide +kernel
theorem dX11_text_9 : decode cX11_text 9 = .ok (.aload_n 0, 1) := by decide +kernel
theorem dX11_text_10 : decode cX11_text 10 = .ok (.ldc 81, 2) := by decide +kernel
theorem dX11_text_12 : decode cX11_text 12 = .ok (.invokevirtual 82, 3) := by decide +kernel
theorem dX11_text_15 : decode cX11_text 15 = .ok (.ireturn, 1) := by decide +kernel
theorem dX11_text_16 : decode cX11_text 16 = .ok (.aload_n 0, 1) := by decide +kernel
theorem dX11_text_17 : decode cX11_text 17 = .ok (.iload_n 1, 1) := by decide +kernel
theorem dX11_text_18 : decode cX11_text 18 = .ok (.putfield 126, 3) := by decide +kernel
theorem dX11_text_21 : decode cX11_text 21 = .ok (.aload_n 0, 1) := by decide +kernel
theorem dX11_text_22 : decode cX11_text 22 = .ok (.iconst 0, 1) := by decide +kernel
theorem dX11_text_23 : decode cX11_text 23 = .ok (.putfield 93, 3) := by decide +kernel
theorem dX11_text_26 : decode cX11_text 26 = .ok (.aload_n 0, 1) := by decide +kernel
theorem dX11_text_27 : decode cX11_text 27 = .ok (.iconst 0, 1) := by decide +kernel
theorem dX11_text_28 : decode cX11_text 28 = .ok (.putfield 136, 3) := by decide +kernel
theorem dX11_text_31 : decode cX11_text 31 = .ok (.aload_n 0, 1) := by decide +kernel
theorem dX11_text_32 : decode cX11_text 32 = .ok (.iconst 0, 1) := by decide +kernel
theorem dX11_text_33 : decode cX11_text 33 = .ok (.putfield 89, 3) := by decide +kernel
theorem dX11_text_36 : decode cX11_text 36 = .ok (.aload_n 0, 1) := by decide +kernel
theorem dX11_text_37 : decode cX11_text 37 = .ok (.iconst 0, 1) := by decide +kernel
theorem dX11_text_38 : decode cX11_text 38 = .ok (.putfield 100, 3) := by decide +kernel
theorem dX11_text_41 : decode cX11_text 41 = .ok (.aload_n 0, 1) := by decide +kernel
theorem dX11_text_42 : decode cX11_text 42 = .ok (.invokevirtual 139, 3) := by decide +kernel
theorem dX11_text_45 : decode cX11_text 45 = .ok (.aload_n 0, 1) := by decide +kernel
theorem dX11_text_46 : decode cX11_text 46 = .ok (.aload_n 0, 1) := by decide +kernel
theorem dX11_text_47 : decode cX11_text 47 = .ok (.getfield 89, 3) := by decide +kernel
theorem dX11_text_50 : decode cX11_text 50 = .ok (.ifCond .ne 16, 3) := by decide +kernel
theorem dX11_text_53 : decode cX11_text 53 = .ok (.aload_n 0, 1) := by decide +kernel
theorem dX11_text_54 : decode cX11_text 54 = .ok (.getfield 93, 3) := by decide +kernel
theorem dX11_text_57 : decode cX11_text 57 = .ok (.aload_n 0, 1) := by decide +kernel
theorem dX11_text_58 : decode cX11_text 58 = .ok (.getfield 9, 3) := by decide +kernel
theorem dX11_text_61 : decode cX11_text 61 = .ok (.iconst 4, 1) := by decide +kernel
theorem dX11_text_62 : decode cX11_text 62 = .ok (.iaload, 1) := by decide +kernel
theorem dX11_text_63 : decode cX11_text 63 = .ok (.if_icmp .ge 7, 3) := by decide +kernel
theorem dX11_text_66 : decode cX11_text 66 = .ok (.iconst 1, 1) := by decide +kernel
theorem dX11_text_67 : decode cX11_text 67 = .ok (.goto 4, 3) := by decide +kernel
theorem dX11_text_70 : decode cX11_text 70 = .ok (.iconst 0, 1) := by decide +kernel
theorem dX11_text_71 : decode cX11_text 71 = .ok (.putfield 89, 3) := by decide +kernel
theorem dX11_text_74 : decode cX11_text 74 = .ok (.aload_n 0, 1) := by decide +kernel
theorem dX11_text_75 : decode cX11_text 75 = .ok (.getfield 9, 3) := by decide +kernel
theorem dX11_text_78 : decode cX11_text 78 = .ok (.iconst 4, 1) := by decide +kernel
theorem dX11_text_79 : decode cX11_text 79 = .ok (.iconst 0, 1) := by decide +kernel
theorem dX11_text_80 : decode cX11_text 80 = .ok (.iastore, 1) := by decide +kernel
theorem dX11_text_81 : decode cX11_text 81 = .ok (.aload_n 0, 1) := by decide +kernel
theorem dX11_text_82 : decode cX11_text 82 = .ok (.getfield 89, 3) := by decide +kernel
theorem dX11_text_85 : decode cX11_text 85 = .ok (.ifCond .eq 11, 3) := by decide +kernel
theorem dX11_text_88 : decode cX11_text 88 = .ok (.bipush (-10), 2) := by decide +kernel
theorem dX11_text_90 : decode cX11_text 90 = .ok (.aload_n 0, 1) := by decide +kernel
theorem dX11_text_91 : decode cX11_text 91 = .ok (.getfield 93, 3) := by decide +kernel
theorem dX11_text_94 : decode cX11_text 94 = .ok (.isub, 1) := by decide +kernel
theorem dX11_text_95 : decode cX11_text 95 = .ok (.ireturn, 1) := by decide +kernel
theorem dX11_text_96 : decode cX11_text 96 = .ok (.aload_n 0, 1) := by decide +kernel
theorem dX11_text_97 : decode cX11_text 97 = .ok (.getfield 9, 3) := by decide +kernel
theorem dX11_text_100 : decode cX11_text 100 = .ok (.sipush 152, 3) := by decide +kernel
theorem dX11_text_103 : decode cX11_text 103 = .ok (.bipush 52, 2) := by decide +kernel
theorem dX11_text_105 : decode cX11_text 105 = .ok (.aload_n 0, 1) := by decide +kernel
theorem dX11_text_106 : decode cX11_text 106 = .ok (.getfield 126, 3) := by decide +kernel
theorem dX11_text_109 : decode cX11_text 109 = .ok (.imul, 1) := by decide +kernel
theorem dX11_text_110 : decode cX11_text 110 = .ok (.iadd, 1) := by decide +kernel
theorem dX11_text_111 : decode cX11_text 111 = .ok (.aload_n 0, 1) := by decide +kernel
theorem dX11_text_112 : decode cX11_text 112 = .ok (.getfield 100, 3) := by decide +kernel
theorem dX11_text_115 : decode cX11_text 115 = .ok (.iastore, 1) := by decide +kernel
theorem dX11_text_116 : decode cX11_text 116 = .ok (.iconst 0, 1) := by decide +kernel
theorem dX11_text_117 : decode cX11_text 117 = .ok (.istore_n 2, 1) := by decide +kernel
theorem dX11_text_118 : decode cX11_text 118 = .ok (.iload_n 2, 1) := by decide +kernel
theorem dX11_text_119 : decode cX11_text 119 = .ok (.aload_n 0, 1) := by decide +kernel
theorem dX11_text_120 : decode cX11_text 120 = .ok (.getfield 100, 3) := by decide +kernel
theorem dX11_text_123 : decode cX11_text 123 = .ok (.if_icmp .ge 35, 3) := by decide +kernel
theorem dX11_text_126 : decode cX11_text 126 = .ok (.aload_n 0, 1) := by decide +kernel
theorem dX11_text_127 : decode cX11_text 127 = .ok (.getfield 9, 3) := by decide +kernel
theorem dX11_text_130 : decode cX11_text 130 = .ok (.sipush 152, 3) := by decide +kernel
theorem dX11_text_133 : decode cX11_text 133 = .ok (.bipush 52, 2) := by decide +kernel
theorem dX11_text_135 : decode cX11_text 135 = .ok (.aload_n 0, 1) := by decide +kernel
theorem dX11_text_136 : decode cX11_text 136 = .ok (.getfield 126, 3) := by decide +kernel
theorem dX11_text_139 : decode cX11_text 139 = .ok (.imul, 1) := by decide +kernel
theorem dX11_text_140 : decode cX11_text 140 = .ok (.iadd, 1) := by decide +kernel
theorem dX11_text_141 : decode cX11_text 141 = .ok (.iconst 1, 1) := by decide +kernel
theorem dX11_text_142 : decode cX11_text 142 = .ok (.iadd, 1) := by decide +kernel
theorem dX11_text_143 : decode cX11_text 143 = .ok (.iload_n 2, 1) := by decide +kernel
theorem dX11_text_144 : decode cX11_text 144 = .ok (.iadd, 1) := by decide +kernel
theorem dX11_text_145 : decode cX11_text 145 = .ok (.aload_n 0, 1) := by decide +kernel
theorem dX11_text_146 : decode cX11_text 146 = .ok (.getfield 36, 3) := by decide +kernel
theorem dX11_text_149 : decode cX11_text 149 = .ok (.iload_n 2, 1) := by decide +kernel
theorem dX11_text_150 : decode cX11_text 150 = .ok (.iaload, 1) := by decide +kernel
theorem dX11_text_151 : decode cX11_text 151 = .ok (.iastore, 1) := by decide +kernel
theorem dX11_text_152 : decode cX11_text 152 = .ok (.iinc 2 1, 3) := by decide +kernel
theorem dX11_text_155 : decode cX11_text 155 = .ok (.goto (-37), 3) := by decide +kernel
theorem dX11_text_158 : decode cX11_text 158 = .ok (.iconst 1, 1) := by decide +kernel
theorem dX11_text_159 : decode cX11_text 159 = .ok (.ireturn, 1) := by decide +kernel
theorem dX11_done_0 : decode cX11_done 0 = .ok (.iload_n 0, 1) := by decide +kernel
theorem dX11_done_1 : decode cX11_done 1 = .ok (.tableswitch 136 20000 20008 #[51, 65, 79, 90, 101, 112, 116, 120, 124], 51) := by decide +kernel
theorem dX11_done_52 : decode cX11_done 52 = .ok (.iload_n 1, 1) := by decide +kernel
theorem dX11_done_53 : decode cX11_done 53 = .ok (.ifCond .ne 7, 3) := by decide +kernel
theorem dX11_done_56 : decode cX11_done 56 = .ok (.iload_n 2, 1) := by decide +kernel
theorem dX11_done_57 : decode cX11_done 57 = .ok (.ifCond .eq 7, 3) := by decide +kernel
theorem dX11_done_60 : decode cX11_done 60 = .ok (.iconst 1, 1) := by decide +kernel
theorem dX11_done_61 : decode cX11_done 61 = .ok (.goto 4, 3) := by decide +kernel
theorem dX11_done_64 : decode cX11_done 64 = .ok (.iconst 0, 1) := by decide +kernel
theorem dX11_done_65 : decode cX11_done 65 = .ok (.ireturn, 1) := by decide +kernel
theorem dX11_done_66 : decode cX11_done 66 = .ok (.iload_n 1, 1) := by decide +kernel
theorem dX11_done_67 : decode cX11_done 67 = .ok (.ifCond .eq 11, 3) := by decide +kernel
theorem dX11_done_70 : decode cX11_done 70 = .ok (.iload_n 2, 1) := by decide +kernel
theorem dX11_done_71 : decode cX11_done 71 = .ok (.ifCond .eq 7, 3) := by decide +kernel
theorem dX11_done_74 : decode cX11_done 74 = .ok (.iconst 1, 1) := by decide +kernel
theorem dX11_done_75 : decode cX11_done 75 = .ok (.goto 4, 3) := by decide +kernel
theorem dX11_done_78 : decode cX11_done 78 = .ok (.iconst 0, 1) := by decide +kernel
theorem dX11_done_79 : decode cX11_done 79 = .ok (.ireturn, 1) := by decide +kernel
theorem dX11_done_80 : decode cX11_done 80 = .ok (.iload_n 1, 1) := by decide +kernel
theorem dX11_done_81 : decode cX11_done 81 = .ok (.iload_n 2, 1) := by decide +kernel
theorem dX11_done_82 : decode cX11_done 82 = .ok (.if_icmp .ge 7, 3) := by decide +kernel
theorem dX11_done_85 : decode cX11_done 85 = .ok (.iconst 1, 1) := by decide +kernel
theorem dX11_done_86 : decode cX11_done 86 = .ok (.goto 4, 3) := by decide +kernel
theorem dX11_done_89 : decode cX11_done 89 = .ok (.iconst 0, 1) := by decide +kernel
theorem dX11_done_90 : decode cX11_done 90 = .ok (.ireturn, 1) := by decide +kernel
theorem dX11_done_91 : decode cX11_done 91 = .ok (.iload_n 1, 1) := by decide +kernel
theorem dX11_done_92 : decode cX11_done 92 = .ok (.iload_n 2, 1) := by decide +kernel
theorem dX11_done_93 : decode cX11_done 93 = .ok (.if_icmp .ne 7, 3) := by decide +kernel
theorem dX11_done_96 : decode cX11_done 96 = .ok (.iconst 1, 1) := by decide +kernel
theorem dX11_done_97 : decode cX11_done 97 = .ok (.goto 4, 3) := by decide +kernel
theorem dX11_done_100 : decode cX11_done 100 = .ok (.iconst 0, 1) := by decide +kernel
theorem dX11_done_101 : decode cX11_done 101 = .ok (.ireturn, 1) := by decide +kernel
theorem dX11_done_102 : decode cX11_done 102 = .ok (.iload_n 1, 1) := by decide +kernel
theorem dX11_done_103 : decode cX11_done 103 = .ok (.iload_n 2, 1) := by decide +kernel
theorem dX11_done_104 : decode cX11_done 104 = .ok (.if_icmp .le 7, 3) := by decide +kernel
theorem dX11_done_107 : decode cX11_done 107 = .ok (.iconst 1, 1) := by decide +kernel
theorem dX11_done_108 : decode cX11_done 108 = .ok (.goto 4, 3) := by decide +kernel
theorem dX11_done_111 : decode cX11_done 111 = .ok (.iconst 0, 1) := by decide +kernel
theorem dX11_done_112 : decode cX11_done 112 = .ok (.ireturn, 1) := by decide +kernel
theorem dX11_done_113 : decode cX11_done 113 = .ok (.iload_n 1, 1) := by decide +kernel
theorem dX11_done_114 : decode cX11_done 114 = .ok (.iload_n 2, 1) := by decide +kernel
theorem dX11_done_115 : decode cX11_done 115 = .ok (.iadd, 1) := by decide +kernel
theorem dX11_done_116 : decode cX11_done 116 = .ok (.ireturn, 1) := by decide +kernel
theorem dX11_done_117 : decode cX11_done 117 = .ok (.iload_n 1, 1) := by decide +kernel
theorem dX11_done_118 : decode cX11_done 118 = .ok (.iload_n 2, 1) := by decide +kernel
theorem dX11_done_119 : decode cX11_done 119 = .ok (.isub, 1) := by decide +kernel
theorem dX11_done_120 : decode cX11_done 120 = .ok (.ireturn, 1) := by decide +kernel
theorem dX11_done_121 : decode cX11_done 121 = .ok (.iload_n 1, 1) := by decide +kernel
theorem dX11_done_122 : decode cX11_done 122 = .ok (.iload_n 2, 1) := by decide +kernel
theorem dX11_done_123 : decode cX11_done 123 = .ok (.imul, 1) := by decide +kernel
theorem dX11_done_124 : decode cX11_done 124 = .ok (.ireturn, 1) := by decide +kernel
theorem dX11_done_125 : decode cX11_done 125 = .ok (.iload_n 2, 1) := by decide +kernel
theorem dX11_done_126 : decode cX11_done 126 = .ok (.ifCond .ne 7, 3) := by decide +kernel
theorem dX11_done_129 : decode cX11_done 129 = .ok (.iconst 0, 1) := by decide +kernel
theorem dX11_done_130 : decode cX11_done 130 = .ok (.goto 6, 3) := by decide +kernel
theorem dX11_done_133 : decode cX11_done 133 = .ok (.iload_n 1, 1) := by decide +kernel
theorem dX11_done_134 : decode cX11_done 134 = .ok (.iload_n 2, 1) := by decide +kernel
theorem dX11_done_135 : decode cX11_done 135 = .ok (.idiv, 1) := by decide +kernel
theorem dX11_done_136 : decode cX11_done 136 = .ok (.ireturn, 1) := by decide +kernel
theorem dX11_done_137 : decode cX11_done 137 = .ok (.iload_n 2, 1) := by decide +kernel
theorem dX11_done_138 : decode cX11_done 138 = .ok (.ifCond .ne 7, 3) := by decide +kernel
theorem dX11_done_141 : decode cX11_done 141 = .ok (.iconst 0, 1) := by decide +kernel
theorem dX11_done_142 : decode cX11_done 142 = .ok (.goto 6, 3) := by decide +kernel
theorem dX11_done_145 : decode cX11_done 145 = .ok (.iload_n 1, 1) := by decide +kernel
theorem dX11_done_146 : decode cX11_done 146 = .ok (.iload_n 2, 1) := by decide +kernel
theorem dX11_done_147 : decode cX11_done 147 = .ok (.irem, 1) := by decide +kernel
theorem dX11_done_148 : decode cX11_done 148 = .ok (.ireturn, 1) := by decide +kernel
theorem dX11_worked_0 : decode cX11_worked 0 = .ok (.iconst 0, 1) := by decide +kernel
theorem dX11_worked_1 : decode cX11_worked 1 = .ok (.istore_n 2, 1) := by decide +kernel
theorem dX11_worked_2 : decode cX11_worked 2 = .ok (.iload_n 1, 1) := by decide +kernel
theorem dX11_worked_3 : decode cX11_worked 3 = .ok (.istore_n 3, 1) := by decide +kernel
theorem dX11_worked_4 : decode cX11_worked 4 = .ok (.iload_n 3, 1) := by decide +kernel
theorem dX11_worked_5 : decode cX11_worked 5 = .ok (.iload_n 1, 1) := by decide +kernel
theorem dX11_worked_6 : decode cX11_worked 6 = .ok (.aload_n 0, 1) := by decide +kernel
theorem dX11_worked_7 : decode cX11_worked 7 = .ok (.getfield 9, 3) := by decide +kernel
theorem dX11_worked_10 : decode cX11_worked 10 = .ok (.iload_n 1, 1) := by decide +kernel
theorem dX11_worked_11 : decode cX11_worked 11 = .ok (.iconst 1, 1) := by decide +kernel
theorem dX11_worked_12 : decode cX11_worked 12 = .ok (.isub, 1) := by decide +kernel
theorem dX11_worked_13 : decode cX11_worked 13 = .ok (.iaload, 1) := by decide +kernel
theorem dX11_worked_14 : decode cX11_worked 14 = .ok (.iadd, 1) := by decide +kernel
theorem dX11_worked_15 : decode cX11_worked 15 = .ok (.if_icmp .ge 126, 3) := by decide +kernel
theorem dX11_worked_18 : decode cX11_worked 18 = .ok (.aload_n 0, 1) := by decide +kernel
theorem dX11_worked_19 : decode cX11_worked 19 = .ok (.getfield 9, 3) := by decide +kernel
theorem dX11_worked_22 : decode cX11_worked 22 = .ok (.iload_n 3, 1) := by decide +kernel
theorem dX11_worked_23 : decode cX11_worked 23 = .ok (.iaload, 1) := by decide +kernel
theorem dX11_worked_24 : decode cX11_worked 24 = .ok (.istore 4, 2) := by decide +kernel
theorem dX11_worked_26 : decode cX11_worked 26 = .ok (.iload 4, 2) := by decide +kernel
theorem dX11_worked_28 : decode cX11_worked 28 = .ok (.sipush 20000, 3) := by decide +kernel
theorem dX11_worked_31 : decode cX11_worked 31 = .ok (.if_icmp .ge 39, 3) := by decide +kernel
theorem dX11_worked_34 : decode cX11_worked 34 = .ok (.aload_n 0, 1) := by decide +kernel
theorem dX11_worked_35 : decode cX11_worked 35 = .ok (.getfield 42, 3) := by decide +kernel
theorem dX11_worked_38 : decode cX11_worked 38 = .ok (.iload_n 2, 1) := by decide +kernel
theorem dX11_worked_39 : decode cX11_worked 39 = .ok (.iload 4, 2) := by decide +kernel
theorem dX11_worked_41 : decode cX11_worked 41 = .ok (.sipush 10000, 3) := by decide +kernel
theorem dX11_worked_44 : decode cX11_worked 44 = .ok (.if_icmp .ge 8, 3) := by decide +kernel
theorem dX11_worked_47 : decode cX11_worked 47 = .ok (.iload 4, 2) := by decide +kernel
theorem dX11_worked_49 : decode cX11_worked 49 = .ok (.goto 14, 3) := by decide +kernel
theorem dX11_worked_52 : decode cX11_worked 52 = .ok (.aload_n 0, 1) := by decide +kernel
theorem dX11_worked_53 : decode cX11_worked 53 = .ok (.getfield 39, 3) := by decide +kernel
theorem dX11_worked_56 : decode cX11_worked 56 = .ok (.iload 4, 2) := by decide +kernel
theorem dX11_worked_58 : decode cX11_worked 58 = .ok (.sipush 10000, 3) := by decide +kernel
theorem dX11_worked_61 : decode cX11_worked 61 = .ok (.isub, 1) := by decide +kernel
theorem dX11_worked_62 : decode cX11_worked 62 = .ok (.iaload, 1) := by decide +kernel
theorem dX11_worked_63 : decode cX11_worked 63 = .ok (.iastore, 1) := by decide +kernel
theorem dX11_worked_64 : decode cX11_worked 64 = .ok (.iinc 2 1, 3) := by decide +kernel
theorem dX11_worked_67 : decode cX11_worked 67 = .ok (.goto 68, 3) := by decide +kernel
theorem dX11_worked_70 : decode cX11_worked 70 = .ok (.iload 4, 2) := by decide +kernel
theorem dX11_worked_72 : decode cX11_worked 72 = .ok (.sipush 20010, 3) := by decide +kernel
theorem dX11_worked_75 : decode cX11_worked 75 = .ok (.if_icmp .ne 30, 3) := by decide +kernel
theorem dX11_worked_78 : decode cX11_worked 78 = .ok (.aload_n 0, 1) := by decide +kernel
theorem dX11_worked_79 : decode cX11_worked 79 = .ok (.getfield 42, 3) := by decide +kernel
theorem dX11_worked_82 : decode cX11_worked 82 = .ok (.iload_n 2, 1) := by decide +kernel
theorem dX11_worked_83 : decode cX11_worked 83 = .ok (.iconst 1, 1) := by decide +kernel
theorem dX11_worked_84 : decode cX11_worked 84 = .ok (.isub, 1) := by decide +kernel
theorem dX11_worked_85 : decode cX11_worked 85 = .ok (.aload_n 0, 1) := by decide +kernel
theorem dX11_worked_86 : decode cX11_worked 86 = .ok (.getfield 42, 3) := by decide +kernel
theorem dX11_worked_89 : decode cX11_worked 89 = .ok (.iload_n 2, 1) := by decide +kernel
theorem dX11_worked_90 : decode cX11_worked 90 = .ok (.iconst 1, 1) := by decide +kernel
theorem dX11_worked_91 : decode cX11_worked 91 = .ok (.isub, 1) := by decide +kernel
theorem dX11_worked_92 : decode cX11_worked 92 = .ok (.iaload, 1) := by decide +kernel
theorem dX11_worked_93 : decode cX11_worked 93 = .ok (.ifCond .ne 7, 3) := by decide +kernel
theorem dX11_worked_96 : decode cX11_worked 96 = .ok (.iconst 1, 1) := by decide +kernel
theorem dX11_worked_97 : decode cX11_worked 97 = .ok (.goto 4, 3) := by decide +kernel
theorem dX11_worked_100 : decode cX11_worked 100 = .ok (.iconst 0, 1) := by decide +kernel
theorem dX11_worked_101 : decode cX11_worked 101 = .ok (.iastore, 1) := by decide +kernel
theorem dX11_worked_102 : decode cX11_worked 102 = .ok (.goto 33, 3) := by decide +kernel
theorem dX11_worked_105 : decode cX11_worked 105 = .ok (.iinc 2 (-1), 3) := by decide +kernel
theorem dX11_worked_108 : decode cX11_worked 108 = .ok (.aload_n 0, 1) := by decide +kernel
theorem dX11_worked_109 : decode cX11_worked 109 = .ok (.getfield 42, 3) := by decide +kernel
theorem dX11_worked_112 : decode cX11_worked 112 = .ok (.iload_n 2, 1) := by decide +kernel
theorem dX11_worked_113 : decode cX11_worked 113 = .ok (.iconst 1, 1) := by decide +kernel
theorem dX11_worked_114 : decode cX11_worked 114 = .ok (.isub, 1) := by decide +kernel
theorem dX11_worked_115 : decode cX11_worked 115 = .ok (.iload 4, 2) := by decide +kernel
theorem dX11_worked_117 : decode cX11_worked 117 = .ok (.aload_n 0, 1) := by decide +kernel
theorem dX11_worked_118 : decode cX11_worked 118 = .ok (.getfield 42, 3) := by decide +kernel
theorem dX11_worked_121 : decode cX11_worked 121 = .ok (.iload_n 2, 1) := by decide +kernel
theorem dX11_worked_122 : decode cX11_worked 122 = .ok (.iconst 1, 1) := by decide +kernel
theorem dX11_worked_123 : decode cX11_worked 123 = .ok (.isub, 1) := by decide +kernel
theorem dX11_worked_124 : decode cX11_worked 124 = .ok (.iaload, 1) := by decide +kernel
theorem dX11_worked_125 : decode cX11_worked 125 = .ok (.aload_n 0, 1) := by decide +kernel
theorem dX11_worked_126 : decode cX11_worked 126 = .ok (.getfield 42, 3) := by decide +kernel
theorem dX11_worked_129 : decode cX11_worked 129 = .ok (.iload_n 2, 1) := by decide +kernel
theorem dX11_worked_130 : decode cX11_worked 130 = .ok (.iaload, 1) := by decide +kernel
theorem dX11_worked_131 : decode cX11_worked 131 = .ok (.invokestatic 145, 3) := by decide +kernel
theorem dX11_worked_134 : decode cX11_worked 134 = .ok (.iastore, 1) := by decide +kernel
theorem dX11_worked_135 : decode cX11_worked 135 = .ok (.iinc 3 1, 3) := by decide +kernel
theorem dX11_worked_138 : decode cX11_worked 138 = .ok (.goto (-134), 3) := by decide +kernel
theorem dX11_worked_141 : decode cX11_worked 141 = .ok (.aload_n 0, 1) := by decide +kernel
theorem dX11_worked_142 : decode cX11_worked 142 = .ok (.getfield 42, 3) := by decide +kernel
theorem dX11_worked_145 : decode cX11_worked 145 = .ok (.iconst 0, 1) := by decide +kernel
theorem dX11_worked_146 : decode cX11_worked 146 = .ok (.iaload, 1) := by decide +kernel
theorem dX11_worked_147 : decode cX11_worked 147 = .ok (.ireturn, 1) := by decide +kernel
theorem dX11_hasText_0 : decode cX11_hasText 0 = .ok (.aload_n 0, 1) := by decide +kernel
theorem dX11_hasText_1 : decode cX11_hasText 1 = .ok (.getfield 9, 3) := by decide +kernel
theorem dX11_hasText_4 : decode cX11_hasText 4 = .ok (.sipush 152, 3) := by decide +kernel
theorem dX11_hasText_7 : decode cX11_hasText 7 = .ok (.bipush 52, 2) := by decide +kernel
theorem dX11_hasText_9 : decode cX11_hasText 9 = .ok (.iload_n 1, 1) := by decide +kernel
theorem dX11_hasText_10 : decode cX11_hasText 10 = .ok (.imul, 1) := by decide +kernel
theorem dX11_hasText_11 : decode cX11_hasText 11 = .ok (.iadd, 1) := by decide +kernel
theorem dX11_hasText_12 : decode cX11_hasText 12 = .ok (.iaload, 1) := by decide +kernel
theorem dX11_hasText_13 : decode cX11_hasText 13 = .ok (.ifCond .le 7, 3) := by decide +kernel
theorem dX11_hasText_16 : decode cX11_hasText 16 = .ok (.iconst 1, 1) := by decide +kernel
theorem dX11_hasText_17 : decode cX11_hasText 17 = .ok (.goto 4, 3) := by decide +kernel
theorem dX11_hasText_20 : decode cX11_hasText 20 = .ok (.iconst 0, 1) := by decide +kernel
theorem dX11_hasText_21 : decode cX11_hasText 21 = .ok (.ireturn, 1) := by decide +kernel
theorem dX11_given_0 : decode cX11_given 0 = .ok (.aload_n 0, 1) := by decide +kernel
theorem dX11_given_1 : decode cX11_given 1 = .ok (.getfield 39, 3) := by decide +kernel
theorem dX11_given_4 : decode cX11_given 4 = .ok (.iconst 0, 1) := by decide +kernel
theorem dX11_given_5 : decode cX11_given 5 = .ok (.iload_n 2, 1) := by decide +kernel
theorem dX11_given_6 : decode cX11_given 6 = .ok (.iastore, 1) := by decide +kernel
theorem dX11_given_7 : decode cX11_given 7 = .ok (.aload_n 0, 1) := by decide +kernel
theorem dX11_given_8 : decode cX11_given 8 = .ok (.getfield 39, 3) := by decide +kernel
theorem dX11_given_11 : decode cX11_given 11 = .ok (.iconst 1, 1) := by decide +kernel
theorem dX11_given_12 : decode cX11_given 12 = .ok (.iload_n 3, 1) := by decide +kernel
theorem dX11_given_13 : decode cX11_given 13 = .ok (.iastore, 1) := by decide +kernel
theorem dX11_given_14 : decode cX11_given 14 = .ok (.aload_n 0, 1) := by decide +kernel
theorem dX11_given_15 : decode cX11_given 15 = .ok (.getfield 39, 3) := by decide +kernel
theorem dX11_given_18 : decode cX11_given 18 = .ok (.iconst 2, 1) := by decide +kernel
theorem dX11_given_19 : decode cX11_given 19 = .ok (.iload 4, 2) := by decide +kernel
theorem dX11_given_21 : decode cX11_given 21 = .ok (.iastore, 1) := by decide +kernel
theorem dX11_given_22 : decode cX11_given 22 = .ok (.iload_n 1, 1) := by decide +kernel
theorem dX11_given_23 : decode cX11_given 23 = .ok (.ifCond .ne 7, 3) := by decide +kernel
theorem dX11_given_26 : decode cX11_given 26 = .ok (.iload_n 3, 1) := by decide +kernel
theorem dX11_given_27 : decode cX11_given 27 = .ok (.goto 13, 3) := by decide +kernel
theorem dX11_given_30 : decode cX11_given 30 = .ok (.iload 4, 2) := by decide +kernel
theorem dX11_given_32 : decode cX11_given 32 = .ok (.ifCond .eq 7, 3) := by decide +kernel
theorem dX11_given_35 : decode cX11_given 35 = .ok (.iload_n 2, 1) := by decide +kernel
theorem dX11_given_36 : decode cX11_given 36 = .ok (.goto 4, 3) := by decide +kernel
theorem dX11_given_39 : decode cX11_given 39 = .ok (.iconst 0, 1) := by decide +kernel
theorem dX11_given_40 : decode cX11_given 40 = .ok (.istore 5, 2) := by decide +kernel
theorem dX11_given_42 : decode cX11_given 42 = .ok (.aload_n 0, 1) := by decide +kernel
theorem dX11_given_43 : decode cX11_given 43 = .ok (.iload_n 1, 1) := by decide +kernel
theorem dX11_given_44 : decode cX11_given 44 = .ok (.invokevirtual 149, 3) := by decide +kernel
theorem dX11_given_47 : decode cX11_given 47 = .ok (.ifCond .eq 20, 3) := by decide +kernel
theorem dX11_given_50 : decode cX11_given 50 = .ok (.aload_n 0, 1) := by decide +kernel
theorem dX11_given_51 : decode cX11_given 51 = .ok (.sipush 152, 3) := by decide +kernel
theorem dX11_given_54 : decode cX11_given 54 = .ok (.bipush 52, 2) := by decide +kernel
theorem dX11_given_56 : decode cX11_given 56 = .ok (.iload_n 1, 1) := by decide +kernel
theorem dX11_given_57 : decode cX11_given 57 = .ok (.imul, 1) := by decide +kernel
theorem dX11_given_58 : decode cX11_given 58 = .ok (.iadd, 1) := by decide +kernel
theorem dX11_given_59 : decode cX11_given 59 = .ok (.iconst 1, 1) := by decide +kernel
theorem dX11_given_60 : decode cX11_given 60 = .ok (.iadd, 1) := by decide +kernel
theorem dX11_given_61 : decode cX11_given 61 = .ok (.invokevirtual 152, 3) := by decide +kernel
theorem dX11_given_64 : decode cX11_given 64 = .ok (.goto 5, 3) := by decide +kernel
theorem dX11_given_67 : decode cX11_given 67 = .ok (.iload 5, 2) := by decide +kernel
theorem dX11_given_69 : decode cX11_given 69 = .ok (.iconst 0, 1) := by decide +kernel
theorem dX11_given_70 : decode cX11_given 70 = .ok (.bipush 99, 2) := by decide +kernel
theorem dX11_given_72 : decode cX11_given 72 = .ok (.invokestatic 155, 3) := by decide +kernel
theorem dX11_given_75 : decode cX11_given 75 = .ok (.ireturn, 1) := by decide +kernel
theorem dX11_law_0 : decode cX11_law 0 = .ok (.iload_n 1, 1) := by decide +kernel
theorem dX11_law_1 : decode cX11_law 1 = .ok (.iconst 0, 1) := by decide +kernel
theorem dX11_law_2 : decode cX11_law 2 = .ok (.iconst 1, 1) := by decide +kernel
theorem dX11_law_3 : decode cX11_law 3 = .ok (.invokestatic 77, 3) := by decide +kernel
theorem dX11_law_6 : decode cX11_law 6 = .ok (.ifCond .eq 15, 3) := by decide +kernel
theorem dX11_law_9 : decode cX11_law 9 = .ok (.aload_n 0, 1) := by decide +kernel
theorem dX11_law_10 : decode cX11_law 10 = .ok (.iload_n 1, 1) := by decide +kernel
theorem dX11_law_11 : decode cX11_law 11 = .ok (.iload_n 2, 1) := by decide +kernel
theorem dX11_law_12 : decode cX11_law 12 = .ok (.iload_n 3, 1) := by decide +kernel
theorem dX11_law_13 : decode cX11_law 13 = .ok (.iload 4, 2) := by decide +kernel
theorem dX11_law_15 : decode cX11_law 15 = .ok (.invokevirtual 158, 3) := by decide +kernel
theorem dX11_law_18 : decode cX11_law 18 = .ok (.goto 9, 3) := by decide +kernel
theorem dX11_law_21 : decode cX11_law 21 = .ok (.aload_n 0, 1) := by decide +kernel
theorem dX11_law_22 : decode cX11_law 22 = .ok (.ldc 81, 2) := by decide +kernel
theorem dX11_law_24 : decode cX11_law 24 = .ok (.invokevirtual 82, 3) := by decide +kernel
theorem dX11_law_27 : decode cX11_law 27 = .ok (.ireturn, 1) := by decide +kernel
theorem dX11_isCell_0 : decode cX11_isCell 0 = .ok (.iload_n 0, 1) := by decide +kernel
theorem dX11_isCell_1 : decode cX11_isCell 1 = .ok (.iconst 0, 1) := by decide +kernel
theorem dX11_isCell_2 : decode cX11_isCell 2 = .ok (.bipush 15, 2) := by decide +kernel
