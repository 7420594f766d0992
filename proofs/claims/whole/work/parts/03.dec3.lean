theorem dX11_isCell_4 : decode cX11_isCell 4 = .ok (.invokestatic 77, 3) := by decide +kernel
theorem dX11_isCell_7 : decode cX11_isCell 7 = .ok (.ireturn, 1) := by decide +kernel
theorem dX11_isMost_0 : decode cX11_isMost 0 = .ok (.iload_n 0, 1) := by decide +kernel
theorem dX11_isMost_1 : decode cX11_isMost 1 = .ok (.iconst 0, 1) := by decide +kernel
theorem dX11_isMost_2 : decode cX11_isMost 2 = .ok (.bipush 99, 2) := by decide +kernel
theorem dX11_isMost_4 : decode cX11_isMost 4 = .ok (.invokestatic 77, 3) := by decide +kernel
theorem dX11_isMost_7 : decode cX11_isMost 7 = .ok (.ireturn, 1) := by decide +kernel
theorem dX11_cell_0 : decode cX11_cell 0 = .ok (.iload_n 2, 1) := by decide +kernel
theorem dX11_cell_1 : decode cX11_cell 1 = .ok (.ifCond .ne 13, 3) := by decide +kernel
theorem dX11_cell_4 : decode cX11_cell 4 = .ok (.iload_n 3, 1) := by decide +kernel
theorem dX11_cell_5 : decode cX11_cell 5 = .ok (.iconst 0, 1) := by decide +kernel
theorem dX11_cell_6 : decode cX11_cell 6 = .ok (.bipush 9, 2) := by decide +kernel
theorem dX11_cell_8 : decode cX11_cell 8 = .ok (.invokestatic 77, 3) := by decide +kernel
theorem dX11_cell_11 : decode cX11_cell 11 = .ok (.goto 20, 3) := by decide +kernel
theorem dX11_cell_14 : decode cX11_cell 14 = .ok (.iload_n 2, 1) := by decide +kernel
theorem dX11_cell_15 : decode cX11_cell 15 = .ok (.iconst 1, 1) := by decide +kernel
theorem dX11_cell_16 : decode cX11_cell 16 = .ok (.if_icmp .ne 14, 3) := by decide +kernel
theorem dX11_cell_19 : decode cX11_cell 19 = .ok (.iload_n 3, 1) := by decide +kernel
theorem dX11_cell_20 : decode cX11_cell 20 = .ok (.invokestatic 162, 3) := by decide +kernel
theorem dX11_cell_23 : decode cX11_cell 23 = .ok (.ifCond .eq 7, 3) := by decide +kernel
theorem dX11_cell_26 : decode cX11_cell 26 = .ok (.iconst 1, 1) := by decide +kernel
theorem dX11_cell_27 : decode cX11_cell 27 = .ok (.goto 4, 3) := by decide +kernel
theorem dX11_cell_30 : decode cX11_cell 30 = .ok (.iconst 0, 1) := by decide +kernel
theorem dX11_cell_31 : decode cX11_cell 31 = .ok (.istore 4, 2) := by decide +kernel
theorem dX11_cell_33 : decode cX11_cell 33 = .ok (.iload_n 1, 1) := by decide +kernel
theorem dX11_cell_34 : decode cX11_cell 34 = .ok (.invokestatic 165, 3) := by decide +kernel
theorem dX11_cell_37 : decode cX11_cell 37 = .ok (.ifCond .eq 29, 3) := by decide +kernel
theorem dX11_cell_40 : decode cX11_cell 40 = .ok (.iload 4, 2) := by decide +kernel
theorem dX11_cell_42 : decode cX11_cell 42 = .ok (.ifCond .eq 24, 3) := by decide +kernel
theorem dX11_cell_45 : decode cX11_cell 45 = .ok (.aload_n 0, 1) := by decide +kernel
theorem dX11_cell_46 : decode cX11_cell 46 = .ok (.iload_n 2, 1) := by decide +kernel
theorem dX11_cell_47 : decode cX11_cell 47 = .ok (.ifCond .ne 8, 3) := by decide +kernel
theorem dX11_cell_50 : decode cX11_cell 50 = .ok (.bipush 18, 2) := by decide +kernel
theorem dX11_cell_52 : decode cX11_cell 52 = .ok (.goto 5, 3) := by decide +kernel
theorem dX11_cell_55 : decode cX11_cell 55 = .ok (.bipush 34, 2) := by decide +kernel
theorem dX11_cell_57 : decode cX11_cell 57 = .ok (.iload_n 1, 1) := by decide +kernel
theorem dX11_cell_58 : decode cX11_cell 58 = .ok (.iadd, 1) := by decide +kernel
theorem dX11_cell_59 : decode cX11_cell 59 = .ok (.iload_n 3, 1) := by decide +kernel
theorem dX11_cell_60 : decode cX11_cell 60 = .ok (.invokevirtual 168, 3) := by decide +kernel
theorem dX11_cell_63 : decode cX11_cell 63 = .ok (.goto 9, 3) := by decide +kernel
theorem dX11_cell_66 : decode cX11_cell 66 = .ok (.aload_n 0, 1) := by decide +kernel
theorem dX11_cell_67 : decode cX11_cell 67 = .ok (.ldc 81, 2) := by decide +kernel
theorem dX11_cell_69 : decode cX11_cell 69 = .ok (.invokevirtual 82, 3) := by decide +kernel
theorem dX11_cell_72 : decode cX11_cell 72 = .ok (.ireturn, 1) := by decide +kernel
theorem dX11_settles_0 : decode cX11_settles 0 = .ok (.aload_n 0, 1) := by decide +kernel
theorem dX11_settles_1 : decode cX11_settles 1 = .ok (.iconst 0, 1) := by decide +kernel
theorem dX11_settles_2 : decode cX11_settles 2 = .ok (.aload_n 0, 1) := by decide +kernel
theorem dX11_settles_3 : decode cX11_settles 3 = .ok (.getfield 9, 3) := by decide +kernel
theorem dX11_settles_6 : decode cX11_settles 6 = .ok (.bipush 34, 2) := by decide +kernel
theorem dX11_settles_8 : decode cX11_settles 8 = .ok (.iload_n 1, 1) := by decide +kernel
theorem dX11_settles_9 : decode cX11_settles 9 = .ok (.iadd, 1) := by decide +kernel
theorem dX11_settles_10 : decode cX11_settles 10 = .ok (.iaload, 1) := by decide +kernel
theorem dX11_settles_11 : decode cX11_settles 11 = .ok (.aload_n 0, 1) := by decide +kernel
theorem dX11_settles_12 : decode cX11_settles 12 = .ok (.getfield 9, 3) := by decide +kernel
theorem dX11_settles_15 : decode cX11_settles 15 = .ok (.bipush 18, 2) := by decide +kernel
theorem dX11_settles_17 : decode cX11_settles 17 = .ok (.iload_n 1, 1) := by decide +kernel
theorem dX11_settles_18 : decode cX11_settles 18 = .ok (.iadd, 1) := by decide +kernel
theorem dX11_settles_19 : decode cX11_settles 19 = .ok (.iaload, 1) := by decide +kernel
theorem dX11_settles_20 : decode cX11_settles 20 = .ok (.aload_n 0, 1) := by decide +kernel
theorem dX11_settles_21 : decode cX11_settles 21 = .ok (.getfield 9, 3) := by decide +kernel
theorem dX11_settles_24 : decode cX11_settles 24 = .ok (.iconst 0, 1) := by decide +kernel
theorem dX11_settles_25 : decode cX11_settles 25 = .ok (.iaload, 1) := by decide +kernel
theorem dX11_settles_26 : decode cX11_settles 26 = .ok (.bipush 20, 2) := by decide +kernel
theorem dX11_settles_28 : decode cX11_settles 28 = .ok (.irem, 1) := by decide +kernel
theorem dX11_settles_29 : decode cX11_settles 29 = .ok (.invokevirtual 158, 3) := by decide +kernel
theorem dX11_settles_32 : decode cX11_settles 32 = .ok (.ireturn, 1) := by decide +kernel
theorem dX11_whoIsOn_0 : decode cX11_whoIsOn 0 = .ok (.iconst 0, 1) := by decide +kernel
theorem dX11_whoIsOn_1 : decode cX11_whoIsOn 1 = .ok (.istore_n 2, 1) := by decide +kernel
theorem dX11_whoIsOn_2 : decode cX11_whoIsOn 2 = .ok (.iconst 0, 1) := by decide +kernel
theorem dX11_whoIsOn_3 : decode cX11_whoIsOn 3 = .ok (.istore_n 3, 1) := by decide +kernel
theorem dX11_whoIsOn_4 : decode cX11_whoIsOn 4 = .ok (.iload_n 3, 1) := by decide +kernel
theorem dX11_whoIsOn_5 : decode cX11_whoIsOn 5 = .ok (.aload_n 0, 1) := by decide +kernel
theorem dX11_whoIsOn_6 : decode cX11_whoIsOn 6 = .ok (.getfield 9, 3) := by decide +kernel
theorem dX11_whoIsOn_9 : decode cX11_whoIsOn 9 = .ok (.iconst 1, 1) := by decide +kernel
theorem dX11_whoIsOn_10 : decode cX11_whoIsOn 10 = .ok (.iaload, 1) := by decide +kernel
theorem dX11_whoIsOn_11 : decode cX11_whoIsOn 11 = .ok (.if_icmp .ge 29, 3) := by decide +kernel
theorem dX11_whoIsOn_14 : decode cX11_whoIsOn 14 = .ok (.iload_n 2, 1) := by decide +kernel
theorem dX11_whoIsOn_15 : decode cX11_whoIsOn 15 = .ok (.aload_n 0, 1) := by decide +kernel
theorem dX11_whoIsOn_16 : decode cX11_whoIsOn 16 = .ok (.iload_n 3, 1) := by decide +kernel
theorem dX11_whoIsOn_17 : decode cX11_whoIsOn 17 = .ok (.iconst 2, 1) := by decide +kernel
theorem dX11_whoIsOn_18 : decode cX11_whoIsOn 18 = .ok (.invokevirtual 171, 3) := by decide +kernel
theorem dX11_whoIsOn_21 : decode cX11_whoIsOn 21 = .ok (.iload_n 1, 1) := by decide +kernel
theorem dX11_whoIsOn_22 : decode cX11_whoIsOn 22 = .ok (.if_icmp .ne 9, 3) := by decide +kernel
theorem dX11_whoIsOn_25 : decode cX11_whoIsOn 25 = .ok (.iconst 1, 1) := by decide +kernel
theorem dX11_whoIsOn_26 : decode cX11_whoIsOn 26 = .ok (.iload_n 3, 1) := by decide +kernel
theorem dX11_whoIsOn_27 : decode cX11_whoIsOn 27 = .ok (.ishl, 1) := by decide +kernel
theorem dX11_whoIsOn_28 : decode cX11_whoIsOn 28 = .ok (.goto 4, 3) := by decide +kernel
theorem dX11_whoIsOn_31 : decode cX11_whoIsOn 31 = .ok (.iconst 0, 1) := by decide +kernel
theorem dX11_whoIsOn_32 : decode cX11_whoIsOn 32 = .ok (.ior, 1) := by decide +kernel
theorem dX11_whoIsOn_33 : decode cX11_whoIsOn 33 = .ok (.istore_n 2, 1) := by decide +kernel
theorem dX11_whoIsOn_34 : decode cX11_whoIsOn 34 = .ok (.iinc 3 1, 3) := by decide +kernel
theorem dX11_whoIsOn_37 : decode cX11_whoIsOn 37 = .ok (.goto (-33), 3) := by decide +kernel
theorem dX11_whoIsOn_40 : decode cX11_whoIsOn 40 = .ok (.iload_n 2, 1) := by decide +kernel
theorem dX11_whoIsOn_41 : decode cX11_whoIsOn 41 = .ok (.ireturn, 1) := by decide +kernel
theorem dX11_ofCell_0 : decode cX11_ofCell 0 = .ok (.iload_n 1, 1) := by decide +kernel
theorem dX11_ofCell_1 : decode cX11_ofCell 1 = .ok (.invokestatic 165, 3) := by decide +kernel
theorem dX11_ofCell_4 : decode cX11_ofCell 4 = .ok (.ifCond .eq 12, 3) := by decide +kernel
theorem dX11_ofCell_7 : decode cX11_ofCell 7 = .ok (.iload_n 2, 1) := by decide +kernel
theorem dX11_ofCell_8 : decode cX11_ofCell 8 = .ok (.iconst 0, 1) := by decide +kernel
theorem dX11_ofCell_9 : decode cX11_ofCell 9 = .ok (.iconst 3, 1) := by decide +kernel
theorem dX11_ofCell_10 : decode cX11_ofCell 10 = .ok (.invokestatic 77, 3) := by decide +kernel
theorem dX11_ofCell_13 : decode cX11_ofCell 13 = .ok (.ifCond .ne 10, 3) := by decide +kernel
theorem dX11_ofCell_16 : decode cX11_ofCell 16 = .ok (.aload_n 0, 1) := by decide +kernel
theorem dX11_ofCell_17 : decode cX11_ofCell 17 = .ok (.ldc 81, 2) := by decide +kernel
theorem dX11_ofCell_19 : decode cX11_ofCell 19 = .ok (.invokevirtual 82, 3) := by decide +kernel
theorem dX11_ofCell_22 : decode cX11_ofCell 22 = .ok (.ireturn, 1) := by decide +kernel
theorem dX11_ofCell_23 : decode cX11_ofCell 23 = .ok (.iload_n 2, 1) := by decide +kernel
theorem dX11_ofCell_24 : decode cX11_ofCell 24 = .ok (.ifCond .ne 15, 3) := by decide +kernel
theorem dX11_ofCell_27 : decode cX11_ofCell 27 = .ok (.aload_n 0, 1) := by decide +kernel
theorem dX11_ofCell_28 : decode cX11_ofCell 28 = .ok (.getfield 9, 3) := by decide +kernel
theorem dX11_ofCell_31 : decode cX11_ofCell 31 = .ok (.bipush 18, 2) := by decide +kernel
theorem dX11_ofCell_33 : decode cX11_ofCell 33 = .ok (.iload_n 1, 1) := by decide +kernel
theorem dX11_ofCell_34 : decode cX11_ofCell 34 = .ok (.iadd, 1) := by decide +kernel
theorem dX11_ofCell_35 : decode cX11_ofCell 35 = .ok (.iaload, 1) := by decide +kernel
theorem dX11_ofCell_36 : decode cX11_ofCell 36 = .ok (.goto 38, 3) := by decide +kernel
theorem dX11_ofCell_39 : decode cX11_ofCell 39 = .ok (.iload_n 2, 1) := by decide +kernel
theorem dX11_ofCell_40 : decode cX11_ofCell 40 = .ok (.iconst 1, 1) := by decide +kernel
theorem dX11_ofCell_41 : decode cX11_ofCell 41 = .ok (.if_icmp .ne 15, 3) := by decide +kernel
theorem dX11_ofCell_44 : decode cX11_ofCell 44 = .ok (.aload_n 0, 1) := by decide +kernel
theorem dX11_ofCell_45 : decode cX11_ofCell 45 = .ok (.getfield 9, 3) := by decide +kernel
theorem dX11_ofCell_48 : decode cX11_ofCell 48 = .ok (.bipush 34, 2) := by decide +kernel
theorem dX11_ofCell_50 : decode cX11_ofCell 50 = .ok (.iload_n 1, 1) := by decide +kernel
theorem dX11_ofCell_51 : decode cX11_ofCell 51 = .ok (.iadd, 1) := by decide +kernel
theorem dX11_ofCell_52 : decode cX11_ofCell 52 = .ok (.iaload, 1) := by decide +kernel
theorem dX11_ofCell_53 : decode cX11_ofCell 53 = .ok (.goto 21, 3) := by decide +kernel
theorem dX11_ofCell_56 : decode cX11_ofCell 56 = .ok (.iload_n 2, 1) := by decide +kernel
theorem dX11_ofCell_57 : decode cX11_ofCell 57 = .ok (.iconst 2, 1) := by decide +kernel
theorem dX11_ofCell_58 : decode cX11_ofCell 58 = .ok (.if_icmp .ne 11, 3) := by decide +kernel
theorem dX11_ofCell_61 : decode cX11_ofCell 61 = .ok (.aload_n 0, 1) := by decide +kernel
theorem dX11_ofCell_62 : decode cX11_ofCell 62 = .ok (.iload_n 1, 1) := by decide +kernel
theorem dX11_ofCell_63 : decode cX11_ofCell 63 = .ok (.invokevirtual 174, 3) := by decide +kernel
theorem dX11_ofCell_66 : decode cX11_ofCell 66 = .ok (.goto 8, 3) := by decide +kernel
theorem dX11_ofCell_69 : decode cX11_ofCell 69 = .ok (.aload_n 0, 1) := by decide +kernel
theorem dX11_ofCell_70 : decode cX11_ofCell 70 = .ok (.iload_n 1, 1) := by decide +kernel
theorem dX11_ofCell_71 : decode cX11_ofCell 71 = .ok (.invokevirtual 177, 3) := by decide +kernel
theorem dX11_ofCell_74 : decode cX11_ofCell 74 = .ok (.ireturn, 1) := by decide +kernel
theorem dX11_isPlace_0 : decode cX11_isPlace 0 = .ok (.iload_n 0, 1) := by decide +kernel
theorem dX11_isPlace_1 : decode cX11_isPlace 1 = .ok (.iconst 0, 1) := by decide +kernel
theorem dX11_isPlace_2 : decode cX11_isPlace 2 = .ok (.iconst 5, 1) := by decide +kernel
theorem dX11_isPlace_3 : decode cX11_isPlace 3 = .ok (.invokestatic 77, 3) := by decide +kernel
theorem dX11_isPlace_6 : decode cX11_isPlace 6 = .ok (.ireturn, 1) := by decide +kernel
theorem dX11_list_0 : decode cX11_list 0 = .ok (.iload_n 1, 1) := by decide +kernel
theorem dX11_list_1 : decode cX11_list 1 = .ok (.invokestatic 180, 3) := by decide +kernel
theorem dX11_list_4 : decode cX11_list 4 = .ok (.ifCond .eq 24, 3) := by decide +kernel
theorem dX11_list_7 : decode cX11_list 7 = .ok (.iload_n 2, 1) := by decide +kernel
theorem dX11_list_8 : decode cX11_list 8 = .ok (.iconst 0, 1) := by decide +kernel
theorem dX11_list_9 : decode cX11_list 9 = .ok (.iconst 4, 1) := by decide +kernel
theorem dX11_list_10 : decode cX11_list 10 = .ok (.invokestatic 77, 3) := by decide +kernel
theorem dX11_list_13 : decode cX11_list 13 = .ok (.ifCond .eq 15, 3) := by decide +kernel
theorem dX11_list_16 : decode cX11_list 16 = .ok (.aload_n 0, 1) := by decide +kernel
theorem dX11_list_17 : decode cX11_list 17 = .ok (.bipush 6, 2) := by decide +kernel
theorem dX11_list_19 : decode cX11_list 19 = .ok (.iload_n 1, 1) := by decide +kernel
theorem dX11_list_20 : decode cX11_list 20 = .ok (.iadd, 1) := by decide +kernel
theorem dX11_list_21 : decode cX11_list 21 = .ok (.iload_n 2, 1) := by decide +kernel
theorem dX11_list_22 : decode cX11_list 22 = .ok (.invokevirtual 168, 3) := by decide +kernel
theorem dX11_list_25 : decode cX11_list 25 = .ok (.goto 9, 3) := by decide +kernel
theorem dX11_list_28 : decode cX11_list 28 = .ok (.aload_n 0, 1) := by decide +kernel
theorem dX11_list_29 : decode cX11_list 29 = .ok (.ldc 81, 2) := by decide +kernel
theorem dX11_list_31 : decode cX11_list 31 = .ok (.invokevirtual 82, 3) := by decide +kernel
theorem dX11_list_34 : decode cX11_list 34 = .ok (.ireturn, 1) := by decide +kernel
theorem dX11_ofList_0 : decode cX11_ofList 0 = .ok (.iload_n 1, 1) := by decide +kernel
theorem dX11_ofList_1 : decode cX11_ofList 1 = .ok (.invokestatic 180, 3) := by decide +kernel
theorem dX11_ofList_4 : decode cX11_ofList 4 = .ok (.ifCond .eq 15, 3) := by decide +kernel
theorem dX11_ofList_7 : decode cX11_ofList 7 = .ok (.aload_n 0, 1) := by decide +kernel
theorem dX11_ofList_8 : decode cX11_ofList 8 = .ok (.getfield 9, 3) := by decide +kernel
theorem dX11_ofList_11 : decode cX11_ofList 11 = .ok (.bipush 6, 2) := by decide +kernel
theorem dX11_ofList_13 : decode cX11_ofList 13 = .ok (.iload_n 1, 1) := by decide +kernel
theorem dX11_ofList_14 : decode cX11_ofList 14 = .ok (.iadd, 1) := by decide +kernel
theorem dX11_ofList_15 : decode cX11_ofList 15 = .ok (.iaload, 1) := by decide +kernel
theorem dX11_ofList_16 : decode cX11_ofList 16 = .ok (.goto 9, 3) := by decide +kernel
theorem dX11_ofList_19 : decode cX11_ofList 19 = .ok (.aload_n 0, 1) := by decide +kernel
theorem dX11_ofList_20 : decode cX11_ofList 20 = .ok (.ldc 81, 2) := by decide +kernel
theorem dX11_ofList_22 : decode cX11_ofList 22 = .ok (.invokevirtual 82, 3) := by decide +kernel
theorem dX11_ofList_25 : decode cX11_ofList 25 = .ok (.ireturn, 1) := by decide +kernel
theorem dX11_dark_0 : decode cX11_dark 0 = .ok (.iload_n 1, 1) := by decide +kernel
theorem dX11_dark_1 : decode cX11_dark 1 = .ok (.iconst 1, 1) := by decide +kernel
theorem dX11_dark_2 : decode cX11_dark 2 = .ok (.bipush 20, 2) := by decide +kernel
theorem dX11_dark_4 : decode cX11_dark 4 = .ok (.invokestatic 77, 3) := by decide +kernel
theorem dX11_dark_7 : decode cX11_dark 7 = .ok (.ifCond .eq 12, 3) := by decide +kernel
theorem dX11_dark_10 : decode cX11_dark 10 = .ok (.aload_n 0, 1) := by decide +kernel
theorem dX11_dark_11 : decode cX11_dark 11 = .ok (.iconst 2, 1) := by decide +kernel
theorem dX11_dark_12 : decode cX11_dark 12 = .ok (.iload_n 1, 1) := by decide +kernel
theorem dX11_dark_13 : decode cX11_dark 13 = .ok (.invokevirtual 168, 3) := by decide +kernel
theorem dX11_dark_16 : decode cX11_dark 16 = .ok (.goto 9, 3) := by decide +kernel
theorem dX11_dark_19 : decode cX11_dark 19 = .ok (.aload_n 0, 1) := by decide +kernel
theorem dX11_dark_20 : decode cX11_dark 20 = .ok (.ldc 81, 2) := by decide +kernel
theorem dX11_dark_22 : decode cX11_dark 22 = .ok (.invokevirtual 82, 3) := by decide +kernel
theorem dX11_dark_25 : decode cX11_dark 25 = .ok (.ireturn, 1) := by decide +kernel
theorem dX11_isDark_0 : decode cX11_isDark 0 = .ok (.aload_n 0, 1) := by decide +kernel
theorem dX11_isDark_1 : decode cX11_isDark 1 = .ok (.getfield 9, 3) := by decide +kernel
theorem dX11_isDark_4 : decode cX11_isDark 4 = .ok (.iconst 0, 1) := by decide +kernel
theorem dX11_isDark_5 : decode cX11_isDark 5 = .ok (.iaload, 1) := by decide +kernel
theorem dX11_isDark_6 : decode cX11_isDark 6 = .ok (.bipush 20, 2) := by decide +kernel
theorem dX11_isDark_8 : decode cX11_isDark 8 = .ok (.irem, 1) := by decide +kernel
theorem dX11_isDark_9 : decode cX11_isDark 9 = .ok (.aload_n 0, 1) := by decide +kernel
theorem dX11_isDark_10 : decode cX11_isDark 10 = .ok (.getfield 9, 3) := by decide +kernel
theorem dX11_isDark_13 : decode cX11_isDark 13 = .ok (.iconst 2, 1) := by decide +kernel
theorem dX11_isDark_14 : decode cX11_isDark 14 = .ok (.iaload, 1) := by decide +kernel
theorem dX11_isDark_15 : decode cX11_isDark 15 = .ok (.if_icmp .ge 7, 3) := by decide +kernel
theorem dX11_isDark_18 : decode cX11_isDark 18 = .ok (.iconst 1, 1) := by decide +kernel
theorem dX11_isDark_19 : decode cX11_isDark 19 = .ok (.goto 4, 3) := by decide +kernel
theorem dX11_isDark_22 : decode cX11_isDark 22 = .ok (.iconst 0, 1) := by decide +kernel
theorem dX11_isDark_23 : decode cX11_isDark 23 = .ok (.ireturn, 1) := by decide +kernel
theorem dX11_isWearer_0 : decode cX11_isWearer 0 = .ok (.iload_n 0, 1) := by decide +kernel
theorem dX11_isWearer_1 : decode cX11_isWearer 1 = .ok (.iconst 0, 1) := by decide +kernel
theorem dX11_isWearer_2 : decode cX11_isWearer 2 = .ok (.iconst 5, 1) := by decide +kernel
theorem dX11_isWearer_3 : decode cX11_isWearer 3 = .ok (.invokestatic 77, 3) := by decide +kernel
theorem dX11_isWearer_6 : decode cX11_isWearer 6 = .ok (.ireturn, 1) := by decide +kernel
theorem dX11_wants_0 : decode cX11_wants 0 = .ok (.iload_n 1, 1) := by decide +kernel
theorem dX11_wants_1 : decode cX11_wants 1 = .ok (.invokestatic 183, 3) := by decide +kernel
theorem dX11_wants_4 : decode cX11_wants 4 = .ok (.ifCond .eq 22, 3) := by decide +kernel
theorem dX11_wants_7 : decode cX11_wants 7 = .ok (.iload_n 2, 1) := by decide +kernel
theorem dX11_wants_8 : decode cX11_wants 8 = .ok (.invokestatic 162, 3) := by decide +kernel
theorem dX11_wants_11 : decode cX11_wants 11 = .ok (.ifCond .eq 15, 3) := by decide +kernel
theorem dX11_wants_14 : decode cX11_wants 14 = .ok (.aload_n 0, 1) := by decide +kernel
theorem dX11_wants_15 : decode cX11_wants 15 = .ok (.bipush 12, 2) := by decide +kernel
theorem dX11_wants_17 : decode cX11_wants 17 = .ok (.iload_n 1, 1) := by decide +kernel
theorem dX11_wants_18 : decode cX11_wants 18 = .ok (.iadd, 1) := by decide +kernel
theorem dX11_wants_19 : decode cX11_wants 19 = .ok (.iload_n 2, 1) := by decide +kernel
theorem dX11_wants_20 : decode cX11_wants 20 = .ok (.invokevirtual 168, 3) := by decide +kernel
theorem dX11_wants_23 : decode cX11_wants 23 = .ok (.goto 9, 3) := by decide +kernel
theorem dX11_wants_26 : decode cX11_wants 26 = .ok (.aload_n 0, 1) := by decide +kernel
theorem dX11_wants_27 : decode cX11_wants 27 = .ok (.ldc 81, 2) := by decide +kernel
theorem dX11_wants_29 : decode cX11_wants 29 = .ok (.invokevirtual 82, 3) := by decide +kernel
theorem dX11_wants_32 : decode cX11_wants 32 = .ok (.ireturn, 1) := by decide +kernel
theorem dX11_ofWearer_0 : decode cX11_ofWearer 0 = .ok (.iload_n 1, 1) := by decide +kernel
theorem dX11_ofWearer_1 : decode cX11_ofWearer 1 = .ok (.invokestatic 183, 3) := by decide +kernel
theorem dX11_ofWearer_4 : decode cX11_ofWearer 4 = .ok (.ifCond .eq 15, 3) := by decide +kernel
theorem dX11_ofWearer_7 : decode cX11_ofWearer 7 = .ok (.aload_n 0, 1) := by decide +kernel
theorem dX11_ofWearer_8 : decode cX11_ofWearer 8 = .ok (.getfield 9, 3) := by decide +kernel
theorem dX11_ofWearer_11 : decode cX11_ofWearer 11 = .ok (.bipush 12, 2) := by decide +kernel
theorem dX11_ofWearer_13 : decode cX11_ofWearer 13 = .ok (.iload_n 1, 1) := by decide +kernel
theorem dX11_ofWearer_14 : decode cX11_ofWearer 14 = .ok (.iadd, 1) := by decide +kernel
theorem dX11_ofWearer_15 : decode cX11_ofWearer 15 = .ok (.iaload, 1) := by decide +kernel
theorem dX11_ofWearer_16 : decode cX11_ofWearer 16 = .ok (.goto 9, 3) := by decide +kernel
theorem dX11_ofWearer_19 : decode cX11_ofWearer 19 = .ok (.aload_n 0, 1) := by decide +kernel
theorem dX11_ofWearer_20 : decode cX11_ofWearer 20 = .ok (.ldc 81, 2) := by decide +kernel
theorem dX11_ofWearer_22 : decode cX11_ofWearer 22 = .ok (.invokevirtual 82, 3) := by decide +kernel
theorem dX11_ofWearer_25 : decode cX11_ofWearer 25 = .ok (.ireturn, 1) := by decide +kernel
theorem dX11_boatAt_0 : decode cX11_boatAt 0 = .ok (.bipush 50, 2) := by decide +kernel
theorem dX11_boatAt_2 : decode cX11_boatAt 2 = .ok (.iconst 4, 1) := by decide +kernel
theorem dX11_boatAt_3 : decode cX11_boatAt 3 = .ok (.iload_n 0, 1) := by decide +kernel
theorem dX11_boatAt_4 : decode cX11_boatAt 4 = .ok (.imul, 1) := by decide +kernel
theorem dX11_boatAt_5 : decode cX11_boatAt 5 = .ok (.iadd, 1) := by decide +kernel
theorem dX11_boatAt_6 : decode cX11_boatAt 6 = .ok (.iload_n 1, 1) := by decide +kernel
theorem dX11_boatAt_7 : decode cX11_boatAt 7 = .ok (.iadd, 1) := by decide +kernel
theorem dX11_boatAt_8 : decode cX11_boatAt 8 = .ok (.ireturn, 1) := by decide +kernel
theorem dX11_boatIs_0 : decode cX11_boatIs 0 = .ok (.aload_n 0, 1) := by decide +kernel
theorem dX11_boatIs_1 : decode cX11_boatIs 1 = .ok (.getfield 9, 3) := by decide +kernel
theorem dX11_boatIs_4 : decode cX11_boatIs 4 = .ok (.iload_n 1, 1) := by decide +kernel
theorem dX11_boatIs_5 : decode cX11_boatIs 5 = .ok (.iload_n 2, 1) := by decide +kernel
theorem dX11_boatIs_6 : decode cX11_boatIs 6 = .ok (.invokestatic 186, 3) := by decide +kernel
theorem dX11_boatIs_9 : decode cX11_boatIs 9 = .ok (.iaload, 1) := by decide +kernel
theorem dX11_boatIs_10 : decode cX11_boatIs 10 = .ok (.ireturn, 1) := by decide +kernel
theorem dX11_isBoat_0 : decode cX11_isBoat 0 = .ok (.iload_n 1, 1) := by decide +kernel
theorem dX11_isBoat_1 : decode cX11_isBoat 1 = .ok (.iconst 0, 1) := by decide +kernel
theorem dX11_isBoat_2 : decode cX11_isBoat 2 = .ok (.aload_n 0, 1) := by decide +kernel
theorem dX11_isBoat_3 : decode cX11_isBoat 3 = .ok (.getfield 9, 3) := by decide +kernel
theorem dX11_isBoat_6 : decode cX11_isBoat 6 = .ok (.iconst 1, 1) := by decide +kernel
theorem dX11_isBoat_7 : decode cX11_isBoat 7 = .ok (.iaload, 1) := by decide +kernel
theorem dX11_isBoat_8 : decode cX11_isBoat 8 = .ok (.iconst 1, 1) := by decide +kernel
theorem dX11_isBoat_9 : decode cX11_isBoat 9 = .ok (.isub, 1) := by decide +kernel
theorem dX11_isBoat_10 : decode cX11_isBoat 10 = .ok (.invokestatic 77, 3) := by decide +kernel
theorem dX11_isBoat_13 : decode cX11_isBoat 13 = .ok (.ireturn, 1) := by decide +kernel
theorem dX11_isKindM_0 : decode cX11_isKindM 0 = .ok (.iload_n 0, 1) := by decide +kernel
theorem dX11_isKindM_1 : decode cX11_isKindM 1 = .ok (.iconst 0, 1) := by decide +kernel
theorem dX11_isKindM_2 : decode cX11_isKindM 2 = .ok (.bipush 69, 2) := by decide +kernel
theorem dX11_isKindM_4 : decode cX11_isKindM 4 = .ok (.invokestatic 77, 3) := by decide +kernel
theorem dX11_isKindM_7 : decode cX11_isKindM 7 = .ok (.ireturn, 1) := by decide +kernel
theorem dX11_comes_0 : decode cX11_comes 0 = .ok (.aload_n 0, 1) := by decide +kernel
theorem dX11_comes_1 : decode cX11_comes 1 = .ok (.getfield 9, 3) := by decide +kernel
theorem dX11_comes_4 : decode cX11_comes 4 = .ok (.iconst 1, 1) := by decide +kernel
theorem dX11_comes_5 : decode cX11_comes 5 = .ok (.iaload, 1) := by decide +kernel
theorem dX11_comes_6 : decode cX11_comes 6 = .ok (.istore_n 3, 1) := by decide +kernel
theorem dX11_comes_7 : decode cX11_comes 7 = .ok (.aload_n 0, 1) := by decide +kernel
theorem dX11_comes_8 : decode cX11_comes 8 = .ok (.getfield 9, 3) := by decide +kernel
theorem dX11_comes_11 : decode cX11_comes 11 = .ok (.iload_n 3, 1) := by decide +kernel
theorem dX11_comes_12 : decode cX11_comes 12 = .ok (.iconst 0, 1) := by decide +kernel
theorem dX11_comes_13 : decode cX11_comes 13 = .ok (.invokestatic 186, 3) := by decide +kernel
theorem dX11_comes_16 : decode cX11_comes 16 = .ok (.iload_n 1, 1) := by decide +kernel
theorem dX11_comes_17 : decode cX11_comes 17 = .ok (.bipush 10, 2) := by decide +kernel
theorem dX11_comes_19 : decode cX11_comes 19 = .ok (.idiv, 1) := by decide +kernel
theorem dX11_comes_20 : decode cX11_comes 20 = .ok (.iastore, 1) := by decide +kernel
theorem dX11_comes_21 : decode cX11_comes 21 = .ok (.aload_n 0, 1) := by decide +kernel
theorem dX11_comes_22 : decode cX11_comes 22 = .ok (.getfield 9, 3) := by decide +kernel
theorem dX11_comes_25 : decode cX11_comes 25 = .ok (.iload_n 3, 1) := by decide +kernel
theorem dX11_comes_26 : decode cX11_comes 26 = .ok (.iconst 1, 1) := by decide +kernel
theorem dX11_comes_27 : decode cX11_comes 27 = .ok (.invokestatic 186, 3) := by decide +kernel
theorem dX11_comes_30 : decode cX11_comes 30 = .ok (.iload_n 1, 1) := by decide +kernel
theorem dX11_comes_31 : decode cX11_comes 31 = .ok (.bipush 10, 2) := by decide +kernel
theorem dX11_comes_33 : decode cX11_comes 33 = .ok (.irem, 1) := by decide +kernel
theorem dX11_comes_34 : decode cX11_comes 34 = .ok (.iastore, 1) := by decide +kernel
theorem dX11_comes_35 : decode cX11_comes 35 = .ok (.aload_n 0, 1) := by decide +kernel
theorem dX11_comes_36 : decode cX11_comes 36 = .ok (.getfield 9, 3) := by decide +kernel
theorem dX11_comes_39 : decode cX11_comes 39 = .ok (.iload_n 3, 1) := by decide +kernel
theorem dX11_comes_40 : decode cX11_comes 40 = .ok (.iconst 2, 1) := by decide +kernel
theorem dX11_comes_41 : decode cX11_comes 41 = .ok (.invokestatic 186, 3) := by decide +kernel
theorem dX11_comes_44 : decode cX11_comes 44 = .ok (.iload_n 2, 1) := by decide +kernel
theorem dX11_comes_45 : decode cX11_comes 45 = .ok (.iastore, 1) := by decide +kernel
theorem dX11_comes_46 : decode cX11_comes 46 = .ok (.aload_n 0, 1) := by decide +kernel
theorem dX11_comes_47 : decode cX11_comes 47 = .ok (.getfield 9, 3) := by decide +kernel
theorem dX11_comes_50 : decode cX11_comes 50 = .ok (.iload_n 3, 1) := by decide +kernel
theorem dX11_comes_51 : decode cX11_comes 51 = .ok (.iconst 3, 1) := by decide +kernel
theorem dX11_comes_52 : decode cX11_comes 52 = .ok (.invokestatic 186, 3) := by decide +kernel
theorem dX11_comes_55 : decode cX11_comes 55 = .ok (.iconst 0, 1) := by decide +kernel
theorem dX11_comes_56 : decode cX11_comes 56 = .ok (.iastore, 1) := by decide +kernel
theorem dX11_comes_57 : decode cX11_comes 57 = .ok (.aload_n 0, 1) := by decide +kernel
theorem dX11_comes_58 : decode cX11_comes 58 = .ok (.getfield 9, 3) := by decide +kernel
theorem dX11_comes_61 : decode cX11_comes 61 = .ok (.iconst 1, 1) := by decide +kernel
theorem dX11_comes_62 : decode cX11_comes 62 = .ok (.dup2, 1) := by decide +kernel
theorem dX11_comes_63 : decode cX11_comes 63 = .ok (.iaload, 1) := by decide +kernel
theorem dX11_comes_64 : decode cX11_comes 64 = .ok (.iconst 1, 1) := by decide +kernel
theorem dX11_comes_65 : decode cX11_comes 65 = .ok (.iadd, 1) := by decide +kernel
theorem dX11_comes_66 : decode cX11_comes 66 = .ok (.iastore, 1) := by decide +kernel
theorem dX11_comes_67 : decode cX11_comes 67 = .ok (.iload_n 3, 1) := by decide +kernel
theorem dX11_comes_68 : decode cX11_comes 68 = .ok (.ireturn, 1) := by decide +kernel
theorem dX11_boat_0 : decode cX11_boat 0 = .ok (.iload_n 1, 1) := by decide +kernel
theorem dX11_boat_1 : decode cX11_boat 1 = .ok (.invokestatic 189, 3) := by decide +kernel
theorem dX11_boat_4 : decode cX11_boat 4 = .ok (.ifCond .eq 10, 3) := by decide +kernel
theorem dX11_boat_7 : decode cX11_boat 7 = .ok (.iload_n 2, 1) := by decide +kernel
theorem dX11_boat_8 : decode cX11_boat 8 = .ok (.invokestatic 165, 3) := by decide +kernel
theorem dX11_boat_11 : decode cX11_boat 11 = .ok (.ifCond .ne 10, 3) := by decide +kernel
theorem dX11_boat_14 : decode cX11_boat 14 = .ok (.aload_n 0, 1) := by decide +kernel
theorem dX11_boat_15 : decode cX11_boat 15 = .ok (.ldc 81, 2) := by decide +kernel
theorem dX11_boat_17 : decode cX11_boat 17 = .ok (.invokevirtual 82, 3) := by decide +kernel
theorem dX11_boat_20 : decode cX11_boat 20 = .ok (.ireturn, 1) := by decide +kernel
theorem dX11_boat_21 : decode cX11_boat 21 = .ok (.aload_n 0, 1) := by decide +kernel
theorem dX11_boat_22 : decode cX11_boat 22 = .ok (.getfield 9, 3) := by decide +kernel
theorem dX11_boat_25 : decode cX11_boat 25 = .ok (.iconst 1, 1) := by decide +kernel
theorem dX11_boat_26 : decode cX11_boat 26 = .ok (.iaload, 1) := by decide +kernel
theorem dX11_boat_27 : decode cX11_boat 27 = .ok (.bipush 8, 2) := by decide +kernel
theorem dX11_boat_29 : decode cX11_boat 29 = .ok (.if_icmp .ne 12, 3) := by decide +kernel
theorem dX11_boat_32 : decode cX11_boat 32 = .ok (.aload_n 0, 1) := by decide +kernel
theorem dX11_boat_33 : decode cX11_boat 33 = .ok (.ldc 86, 2) := by decide +kernel
theorem dX11_boat_35 : decode cX11_boat 35 = .ok (.invokevirtual 82, 3) := by decide +kernel
theorem dX11_boat_38 : decode cX11_boat 38 = .ok (.goto 9, 3) := by decide +kernel
theorem dX11_boat_41 : decode cX11_boat 41 = .ok (.aload_n 0, 1) := by decide +kernel
theorem dX11_boat_42 : decode cX11_boat 42 = .ok (.iload_n 1, 1) := by decide +kernel
theorem dX11_boat_43 : decode cX11_boat 43 = .ok (.iload_n 2, 1) := by decide +kernel
theorem dX11_boat_44 : decode cX11_boat 44 = .ok (.invokevirtual 192, 3) := by decide +kernel
theorem dX11_boat_47 : decode cX11_boat 47 = .ok (.ireturn, 1) := by decide +kernel
theorem dX11_above_0 : decode cX11_above 0 = .ok (.iload_n 0, 1) := by decide +kernel
theorem dX11_above_1 : decode cX11_above 1 = .ok (.ifCond .ne 7, 3) := by decide +kernel
theorem dX11_above_4 : decode cX11_above 4 = .ok (.iconst (-1), 1) := by decide +kernel
theorem dX11_above_5 : decode cX11_above 5 = .ok (.goto 32, 3) := by decide +kernel
theorem dX11_above_8 : decode cX11_above 8 = .ok (.iload_n 0, 1) := by decide +kernel
theorem dX11_above_9 : decode cX11_above 9 = .ok (.iconst 4, 1) := by decide +kernel
theorem dX11_above_10 : decode cX11_above 10 = .ok (.if_icmp .ne 7, 3) := by decide +kernel
theorem dX11_above_13 : decode cX11_above 13 = .ok (.iconst 1, 1) := by decide +kernel
theorem dX11_above_14 : decode cX11_above 14 = .ok (.goto 23, 3) := by decide +kernel
theorem dX11_above_17 : decode cX11_above 17 = .ok (.iload_n 0, 1) := by decide +kernel
theorem dX11_above_18 : decode cX11_above 18 = .ok (.iconst 5, 1) := by decide +kernel
theorem dX11_above_19 : decode cX11_above 19 = .ok (.if_icmp .ne 7, 3) := by decide +kernel
theorem dX11_above_22 : decode cX11_above 22 = .ok (.iconst 2, 1) := by decide +kernel
theorem dX11_above_23 : decode cX11_above 23 = .ok (.goto 14, 3) := by decide +kernel
theorem dX11_above_26 : decode cX11_above 26 = .ok (.iload_n 0, 1) := by decide +kernel
theorem dX11_above_27 : decode cX11_above 27 = .ok (.bipush 6, 2) := by decide +kernel
theorem dX11_above_29 : decode cX11_above 29 = .ok (.if_icmp .ne 7, 3) := by decide +kernel
theorem dX11_above_32 : decode cX11_above 32 = .ok (.iconst 3, 1) := by decide +kernel
theorem dX11_above_33 : decode cX11_above 33 = .ok (.goto 4, 3) := by decide +kernel
theorem dX11_above_36 : decode cX11_above 36 = .ok (.iconst 0, 1) := by decide +kernel
theorem dX11_above_37 : decode cX11_above 37 = .ok (.ireturn, 1) := by decide +kernel
theorem dX11_isUnder_0 : decode cX11_isUnder 0 = .ok (.iload_n 0, 1) := by decide +kernel
theorem dX11_isUnder_1 : decode cX11_isUnder 1 = .ok (.istore_n 2, 1) := by decide +kernel
theorem dX11_isUnder_2 : decode cX11_isUnder 2 = .ok (.iload_n 2, 1) := by decide +kernel
theorem dX11_isUnder_3 : decode cX11_isUnder 3 = .ok (.ifCond .lt 16, 3) := by decide +kernel
theorem dX11_isUnder_6 : decode cX11_isUnder 6 = .ok (.iload_n 2, 1) := by decide +kernel
theorem dX11_isUnder_7 : decode cX11_isUnder 7 = .ok (.iload_n 1, 1) := by decide +kernel
theorem dX11_isUnder_8 : decode cX11_isUnder 8 = .ok (.if_icmp .eq 11, 3) := by decide +kernel
theorem dX11_isUnder_11 : decode cX11_isUnder 11 = .ok (.iload_n 2, 1) := by decide +kernel
theorem dX11_isUnder_12 : decode cX11_isUnder 12 = .ok (.invokestatic 195, 3) := by decide +kernel
theorem dX11_isUnder_15 : decode cX11_isUnder 15 = .ok (.istore_n 2, 1) := by decide +kernel
theorem dX11_isUnder_16 : decode cX11_isUnder 16 = .ok (.goto (-14), 3) := by decide +kernel
theorem dX11_isUnder_19 : decode cX11_isUnder 19 = .ok (.iload_n 2, 1) := by decide +kernel
theorem dX11_isUnder_20 : decode cX11_isUnder 20 = .ok (.ifCond .lt 7, 3) := by decide +kernel
theorem dX11_isUnder_23 : decode cX11_isUnder 23 = .ok (.iconst 1, 1) := by decide +kernel
theorem dX11_isUnder_24 : decode cX11_isUnder 24 = .ok (.goto 4, 3) := by decide +kernel
theorem dX11_isUnder_27 : decode cX11_isUnder 27 = .ok (.iconst 0, 1) := by decide +kernel
theorem dX11_isUnder_28 : decode cX11_isUnder 28 = .ok (.ireturn, 1) := by decide +kernel
theorem dX11_dips_0 : decode cX11_dips 0 = .ok (.aload_n 0, 1) := by decide +kernel
theorem dX11_dips_1 : decode cX11_dips 1 = .ok (.iload_n 1, 1) := by decide +kernel
theorem dX11_dips_2 : decode cX11_dips 2 = .ok (.iconst 0, 1) := by decide +kernel
theorem dX11_dips_3 : decode cX11_dips 3 = .ok (.invokevirtual 171, 3) := by decide +kernel
theorem dX11_dips_6 : decode cX11_dips 6 = .ok (.tableswitch 79 1 6 #[38, 40, 44, 57, 66, 44], 38) := by decide +kernel
theorem dX11_dips_44 : decode cX11_dips 44 = .ok (.iconst 3, 1) := by decide +kernel
theorem dX11_dips_45 : decode cX11_dips 45 = .ok (.ireturn, 1) := by decide +kernel
theorem dX11_dips_46 : decode cX11_dips 46 = .ok (.iload_n 2, 1) := by decide +kernel
theorem dX11_dips_47 : decode cX11_dips 47 = .ok (.iconst 3, 1) := by decide +kernel
theorem dX11_dips_48 : decode cX11_dips 48 = .ok (.idiv, 1) := by decide +kernel
theorem dX11_dips_49 : decode cX11_dips 49 = .ok (.ireturn, 1) := by decide +kernel
theorem dX11_dips_50 : decode cX11_dips 50 = .ok (.iload_n 2, 1) := by decide +kernel
theorem dX11_dips_51 : decode cX11_dips 51 = .ok (.bipush 30, 2) := by decide +kernel
theorem dX11_dips_53 : decode cX11_dips 53 = .ok (.if_icmp .le 8, 3) := by decide +kernel
theorem dX11_dips_56 : decode cX11_dips 56 = .ok (.bipush 10, 2) := by decide +kernel
theorem dX11_dips_58 : decode cX11_dips 58 = .ok (.goto 4, 3) := by decide +kernel
theorem dX11_dips_61 : decode cX11_dips 61 = .ok (.iconst 5, 1) := by decide +kernel
theorem dX11_dips_62 : decode cX11_dips 62 = .ok (.ireturn, 1) := by decide +kernel
theorem dX11_dips_63 : decode cX11_dips 63 = .ok (.iconst 3, 1) := by decide +kernel
theorem dX11_dips_64 : decode cX11_dips 64 = .ok (.aload_n 0, 1) := by decide +kernel
theorem dX11_dips_65 : decode cX11_dips 65 = .ok (.iload_n 1, 1) := by decide +kernel
theorem dX11_dips_66 : decode cX11_dips 66 = .ok (.iconst 1, 1) := by decide +kernel
theorem dX11_dips_67 : decode cX11_dips 67 = .ok (.invokevirtual 171, 3) := by decide +kernel
theorem dX11_dips_70 : decode cX11_dips 70 = .ok (.iadd, 1) := by decide +kernel
theorem dX11_dips_71 : decode cX11_dips 71 = .ok (.ireturn, 1) := by decide +kernel
theorem dX11_dips_72 : decode cX11_dips 72 = .ok (.iload_n 2, 1) := by decide +kernel
theorem dX11_dips_73 : decode cX11_dips 73 = .ok (.iconst 3, 1) := by decide +kernel
theorem dX11_dips_74 : decode cX11_dips 74 = .ok (.idiv, 1) := by decide +kernel
theorem dX11_dips_75 : decode cX11_dips 75 = .ok (.aload_n 0, 1) := by decide +kernel
theorem dX11_dips_76 : decode cX11_dips 76 = .ok (.iload_n 1, 1) := by decide +kernel
theorem dX11_dips_77 : decode cX11_dips 77 = .ok (.iconst 1, 1) := by decide +kernel
theorem dX11_dips_78 : decode cX11_dips 78 = .ok (.invokevirtual 171, 3) := by decide +kernel
theorem dX11_dips_81 : decode cX11_dips 81 = .ok (.iconst 3, 1) := by decide +kernel
theorem dX11_dips_82 : decode cX11_dips 82 = .ok (.irem, 1) := by decide +kernel
theorem dX11_dips_83 : decode cX11_dips 83 = .ok (.iadd, 1) := by decide +kernel
theorem dX11_dips_84 : decode cX11_dips 84 = .ok (.ireturn, 1) := by decide +kernel
theorem dX11_dips_85 : decode cX11_dips 85 = .ok (.iconst 5, 1) := by decide +kernel
theorem dX11_dips_86 : decode cX11_dips 86 = .ok (.ireturn, 1) := by decide +kernel
theorem dX11_goes_0 : decode cX11_goes 0 = .ok (.iload_n 2, 1) := by decide +kernel
theorem dX11_goes_1 : decode cX11_goes 1 = .ok (.ifCond .ne 7, 3) := by decide +kernel
theorem dX11_goes_4 : decode cX11_goes 4 = .ok (.iconst 0, 1) := by decide +kernel
theorem dX11_goes_5 : decode cX11_goes 5 = .ok (.goto 8, 3) := by decide +kernel
theorem dX11_goes_8 : decode cX11_goes 8 = .ok (.iload_n 2, 1) := by decide +kernel
theorem dX11_goes_9 : decode cX11_goes 9 = .ok (.iconst 4, 1) := by decide +kernel
theorem dX11_goes_10 : decode cX11_goes 10 = .ok (.irem, 1) := by decide +kernel
theorem dX11_goes_11 : decode cX11_goes 11 = .ok (.iconst 1, 1) := by decide +kernel
theorem dX11_goes_12 : decode cX11_goes 12 = .ok (.iadd, 1) := by decide +kernel
theorem dX11_goes_13 : decode cX11_goes 13 = .ok (.istore_n 3, 1) := by decide +kernel
theorem dX11_goes_14 : decode cX11_goes 14 = .ok (.aload_n 0, 1) := by decide +kernel
theorem dX11_goes_15 : decode cX11_goes 15 = .ok (.iload_n 1, 1) := by decide +kernel
theorem dX11_goes_16 : decode cX11_goes 16 = .ok (.iconst 0, 1) := by decide +kernel
theorem dX11_goes_17 : decode cX11_goes 17 = .ok (.invokevirtual 171, 3) := by decide +kernel
theorem dX11_goes_20 : decode cX11_goes 20 = .ok (.tableswitch 92 1 6 #[40, 55, 73, 40, 55, 75], 40) := by decide +kernel
theorem dX11_goes_60 : decode cX11_goes 60 = .ok (.iload_n 2, 1) := by decide +kernel
theorem dX11_goes_61 : decode cX11_goes 61 = .ok (.iconst 2, 1) := by decide +kernel
theorem dX11_goes_62 : decode cX11_goes 62 = .ok (.irem, 1) := by decide +kernel
theorem dX11_goes_63 : decode cX11_goes 63 = .ok (.iconst 1, 1) := by decide +kernel
theorem dX11_goes_64 : decode cX11_goes 64 = .ok (.if_icmp .ne 9, 3) := by decide +kernel
theorem dX11_goes_67 : decode cX11_goes 67 = .ok (.iconst 4, 1) := by decide +kernel
theorem dX11_goes_68 : decode cX11_goes 68 = .ok (.iload_n 2, 1) := by decide +kernel
theorem dX11_goes_69 : decode cX11_goes 69 = .ok (.isub, 1) := by decide +kernel
theorem dX11_goes_70 : decode cX11_goes 70 = .ok (.goto 4, 3) := by decide +kernel
theorem dX11_goes_73 : decode cX11_goes 73 = .ok (.iload_n 2, 1) := by decide +kernel
theorem dX11_goes_74 : decode cX11_goes 74 = .ok (.ireturn, 1) := by decide +kernel
theorem dX11_goes_75 : decode cX11_goes 75 = .ok (.aload_n 0, 1) := by decide +kernel
theorem dX11_goes_76 : decode cX11_goes 76 = .ok (.getfield 9, 3) := by decide +kernel
theorem dX11_goes_79 : decode cX11_goes 79 = .ok (.iconst 0, 1) := by decide +kernel
theorem dX11_goes_80 : decode cX11_goes 80 = .ok (.iaload, 1) := by decide +kernel
theorem dX11_goes_81 : decode cX11_goes 81 = .ok (.iconst 2, 1) := by decide +kernel
theorem dX11_goes_82 : decode cX11_goes 82 = .ok (.irem, 1) := by decide +kernel
theorem dX11_goes_83 : decode cX11_goes 83 = .ok (.iconst 1, 1) := by decide +kernel
theorem dX11_goes_84 : decode cX11_goes 84 = .ok (.if_icmp .ne 7, 3) := by decide +kernel
theorem dX11_goes_87 : decode cX11_goes 87 = .ok (.iconst 0, 1) := by decide +kernel
theorem dX11_goes_88 : decode cX11_goes 88 = .ok (.goto 4, 3) := by decide +kernel
theorem dX11_goes_91 : decode cX11_goes 91 = .ok (.iload_n 2, 1) := by decide +kernel
theorem dX11_goes_92 : decode cX11_goes 92 = .ok (.ireturn, 1) := by decide +kernel
theorem dX11_goes_93 : decode cX11_goes 93 = .ok (.iload_n 3, 1) := by decide +kernel
theorem dX11_goes_94 : decode cX11_goes 94 = .ok (.ireturn, 1) := by decide +kernel
theorem dX11_goes_95 : decode cX11_goes 95 = .ok (.iload_n 3, 1) := by decide +kernel
theorem dX11_goes_96 : decode cX11_goes 96 = .ok (.ifCond .ne 14, 3) := by decide +kernel
theorem dX11_goes_99 : decode cX11_goes 99 = .ok (.aload_n 0, 1) := by decide +kernel
theorem dX11_goes_100 : decode cX11_goes 100 = .ok (.iload_n 1, 1) := by decide +kernel
theorem dX11_goes_101 : decode cX11_goes 101 = .ok (.iconst 1, 1) := by decide +kernel
theorem dX11_goes_102 : decode cX11_goes 102 = .ok (.invokevirtual 171, 3) := by decide +kernel
theorem dX11_goes_105 : decode cX11_goes 105 = .ok (.iconst 5, 1) := by decide +kernel
theorem dX11_goes_106 : decode cX11_goes 106 = .ok (.irem, 1) := by decide +kernel
theorem dX11_goes_107 : decode cX11_goes 107 = .ok (.goto 4, 3) := by decide +kernel
theorem dX11_goes_110 : decode cX11_goes 110 = .ok (.iload_n 3, 1) := by decide +kernel
theorem dX11_goes_111 : decode cX11_goes 111 = .ok (.ireturn, 1) := by decide +kernel
theorem dX11_goes_112 : decode cX11_goes 112 = .ok (.iload_n 2, 1) := by decide +kernel
theorem dX11_goes_113 : decode cX11_goes 113 = .ok (.ireturn, 1) := by decide +kernel
theorem dX11_leaks_0 : decode cX11_leaks 0 = .ok (.aload_n 0, 1) := by decide +kernel
theorem dX11_leaks_1 : decode cX11_leaks 1 = .ok (.iload_n 1, 1) := by decide +kernel
theorem dX11_leaks_2 : decode cX11_leaks 2 = .ok (.iconst 0, 1) := by decide +kernel
theorem dX11_leaks_3 : decode cX11_leaks 3 = .ok (.invokevirtual 171, 3) := by decide +kernel
theorem dX11_leaks_6 : decode cX11_leaks 6 = .ok (.tableswitch 53 1 6 #[38, 40, 53, 42, 53, 38], 38) := by decide +kernel
theorem dX11_leaks_44 : decode cX11_leaks 44 = .ok (.iconst 2, 1) := by decide +kernel
theorem dX11_leaks_45 : decode cX11_leaks 45 = .ok (.ireturn, 1) := by decide +kernel
theorem dX11_leaks_46 : decode cX11_leaks 46 = .ok (.iconst 0, 1) := by decide +kernel
theorem dX11_leaks_47 : decode cX11_leaks 47 = .ok (.ireturn, 1) := by decide +kernel
theorem dX11_leaks_48 : decode cX11_leaks 48 = .ok (.iconst 2, 1) := by decide +kernel
theorem dX11_leaks_49 : decode cX11_leaks 49 = .ok (.aload_n 0, 1) := by decide +kernel
theorem dX11_leaks_50 : decode cX11_leaks 50 = .ok (.iload_n 1, 1) := by decide +kernel
theorem dX11_leaks_51 : decode cX11_leaks 51 = .ok (.iconst 1, 1) := by decide +kernel
theorem dX11_leaks_52 : decode cX11_leaks 52 = .ok (.invokevirtual 171, 3) := by decide +kernel
theorem dX11_leaks_55 : decode cX11_leaks 55 = .ok (.iconst 3, 1) := by decide +kernel
theorem dX11_leaks_56 : decode cX11_leaks 56 = .ok (.idiv, 1) := by decide +kernel
theorem dX11_leaks_57 : decode cX11_leaks 57 = .ok (.iadd, 1) := by decide +kernel
theorem dX11_leaks_58 : decode cX11_leaks 58 = .ok (.ireturn, 1) := by decide +kernel
theorem dX11_leaks_59 : decode cX11_leaks 59 = .ok (.iconst 1, 1) := by decide +kernel
theorem dX11_leaks_60 : decode cX11_leaks 60 = .ok (.ireturn, 1) := by decide +kernel
theorem dX11_lost_0 : decode cX11_lost 0 = .ok (.aload_n 0, 1) := by decide +kernel
theorem dX11_lost_1 : decode cX11_lost 1 = .ok (.iconst 1, 1) := by decide +kernel
theorem dX11_lost_2 : decode cX11_lost 2 = .ok (.aload_n 0, 1) := by decide +kernel
theorem dX11_lost_3 : decode cX11_lost 3 = .ok (.iload_n 1, 1) := by decide +kernel
theorem dX11_lost_4 : decode cX11_lost 4 = .ok (.invokevirtual 198, 3) := by decide +kernel
theorem dX11_lost_7 : decode cX11_lost 7 = .ok (.aload_n 0, 1) := by decide +kernel
theorem dX11_lost_8 : decode cX11_lost 8 = .ok (.iload_n 1, 1) := by decide +kernel
theorem dX11_lost_9 : decode cX11_lost 9 = .ok (.iconst 3, 1) := by decide +kernel
theorem dX11_lost_10 : decode cX11_lost 10 = .ok (.invokevirtual 171, 3) := by decide +kernel
theorem dX11_lost_13 : decode cX11_lost 13 = .ok (.aload_n 0, 1) := by decide +kernel
theorem dX11_lost_14 : decode cX11_lost 14 = .ok (.invokevirtual 201, 3) := by decide +kernel
theorem dX11_lost_17 : decode cX11_lost 17 = .ok (.ifCond .eq 7, 3) := by decide +kernel
theorem dX11_lost_20 : decode cX11_lost 20 = .ok (.iconst 0, 1) := by decide +kernel
theorem dX11_lost_21 : decode cX11_lost 21 = .ok (.goto 4, 3) := by decide +kernel
theorem dX11_lost_24 : decode cX11_lost 24 = .ok (.iconst 1, 1) := by decide +kernel
theorem dX11_lost_25 : decode cX11_lost 25 = .ok (.invokevirtual 158, 3) := by decide +kernel
theorem dX11_lost_28 : decode cX11_lost 28 = .ok (.ireturn, 1) := by decide +kernel
theorem dX11_wayNow_0 : decode cX11_wayNow 0 = .ok (.aload_n 0, 1) := by decide +kernel
theorem dX11_wayNow_1 : decode cX11_wayNow 1 = .ok (.getfield 9, 3) := by decide +kernel
theorem dX11_wayNow_4 : decode cX11_wayNow 4 = .ok (.bipush 6, 2) := by decide +kernel
theorem dX11_wayNow_6 : decode cX11_wayNow 6 = .ok (.aload_n 0, 1) := by decide +kernel
theorem dX11_wayNow_7 : decode cX11_wayNow 7 = .ok (.getfield 9, 3) := by decide +kernel
theorem dX11_wayNow_10 : decode cX11_wayNow 10 = .ok (.iconst 0, 1) := by decide +kernel
theorem dX11_wayNow_11 : decode cX11_wayNow 11 = .ok (.iaload, 1) := by decide +kernel
theorem dX11_wayNow_12 : decode cX11_wayNow 12 = .ok (.bipush 6, 2) := by decide +kernel
theorem dX11_wayNow_14 : decode cX11_wayNow 14 = .ok (.irem, 1) := by decide +kernel
theorem dX11_wayNow_15 : decode cX11_wayNow 15 = .ok (.iadd, 1) := by decide +kernel
theorem dX11_wayNow_16 : decode cX11_wayNow 16 = .ok (.iaload, 1) := by decide +kernel
theorem dX11_wayNow_17 : decode cX11_wayNow 17 = .ok (.ireturn, 1) := by decide +kernel
theorem dX11_ofBoat_0 : decode cX11_ofBoat 0 = .ok (.aload_n 0, 1) := by decide +kernel
theorem dX11_ofBoat_1 : decode cX11_ofBoat 1 = .ok (.iload_n 1, 1) := by decide +kernel
theorem dX11_ofBoat_2 : decode cX11_ofBoat 2 = .ok (.invokevirtual 205, 3) := by decide +kernel
theorem dX11_ofBoat_5 : decode cX11_ofBoat 5 = .ok (.ifCond .eq 13, 3) := by decide +kernel
theorem dX11_ofBoat_8 : decode cX11_ofBoat 8 = .ok (.iload_n 2, 1) := by decide +kernel
theorem dX11_ofBoat_9 : decode cX11_ofBoat 9 = .ok (.iconst 0, 1) := by decide +kernel
theorem dX11_ofBoat_10 : decode cX11_ofBoat 10 = .ok (.bipush 7, 2) := by decide +kernel
theorem dX11_ofBoat_12 : decode cX11_ofBoat 12 = .ok (.invokestatic 77, 3) := by decide +kernel
theorem dX11_ofBoat_15 : decode cX11_ofBoat 15 = .ok (.ifCond .ne 10, 3) := by decide +kernel
theorem dX11_ofBoat_18 : decode cX11_ofBoat 18 = .ok (.aload_n 0, 1) := by decide +kernel
theorem dX11_ofBoat_19 : decode cX11_ofBoat 19 = .ok (.ldc 81, 2) := by decide +kernel
theorem dX11_ofBoat_21 : decode cX11_ofBoat 21 = .ok (.invokevirtual 82, 3) := by decide +kernel
theorem dX11_ofBoat_24 : decode cX11_ofBoat 24 = .ok (.ireturn, 1) := by decide +kernel
theorem dX11_ofBoat_25 : decode cX11_ofBoat 25 = .ok (.iload_n 2, 1) := by decide +kernel
theorem dX11_ofBoat_26 : decode cX11_ofBoat 26 = .ok (.tableswitch 72 4 7 #[30, 50, 60, 66], 30) := by decide +kernel
theorem dX11_ofBoat_56 : decode cX11_ofBoat 56 = .ok (.aload_n 0, 1) := by decide +kernel
theorem dX11_ofBoat_57 : decode cX11_ofBoat 57 = .ok (.iload_n 1, 1) := by decide +kernel
theorem dX11_ofBoat_58 : decode cX11_ofBoat 58 = .ok (.aload_n 0, 1) := by decide +kernel
theorem dX11_ofBoat_59 : decode cX11_ofBoat 59 = .ok (.getfield 9, 3) := by decide +kernel
theorem dX11_ofBoat_62 : decode cX11_ofBoat 62 = .ok (.bipush 34, 2) := by decide +kernel
theorem dX11_ofBoat_64 : decode cX11_ofBoat 64 = .ok (.aload_n 0, 1) := by decide +kernel
theorem dX11_ofBoat_65 : decode cX11_ofBoat 65 = .ok (.iload_n 1, 1) := by decide +kernel
theorem dX11_ofBoat_66 : decode cX11_ofBoat 66 = .ok (.iconst 2, 1) := by decide +kernel
theorem dX11_ofBoat_67 : decode cX11_ofBoat 67 = .ok (.invokevirtual 171, 3) := by decide +kernel
theorem dX11_ofBoat_70 : decode cX11_ofBoat 70 = .ok (.iadd, 1) := by decide +kernel
theorem dX11_ofBoat_71 : decode cX11_ofBoat 71 = .ok (.iaload, 1) := by decide +kernel
theorem dX11_ofBoat_72 : decode cX11_ofBoat 72 = .ok (.invokevirtual 208, 3) := by decide +kernel
theorem dX11_ofBoat_75 : decode cX11_ofBoat 75 = .ok (.ireturn, 1) := by decide +kernel
theorem dX11_ofBoat_76 : decode cX11_ofBoat 76 = .ok (.aload_n 0, 1) := by decide +kernel
theorem dX11_ofBoat_77 : decode cX11_ofBoat 77 = .ok (.iload_n 1, 1) := by decide +kernel
theorem dX11_ofBoat_78 : decode cX11_ofBoat 78 = .ok (.aload_n 0, 1) := by decide +kernel
theorem dX11_ofBoat_79 : decode cX11_ofBoat 79 = .ok (.invokevirtual 211, 3) := by decide +kernel
theorem dX11_ofBoat_82 : decode cX11_ofBoat 82 = .ok (.invokevirtual 214, 3) := by decide +kernel
theorem dX11_ofBoat_85 : decode cX11_ofBoat 85 = .ok (.ireturn, 1) := by decide +kernel
theorem dX11_ofBoat_86 : decode cX11_ofBoat 86 = .ok (.aload_n 0, 1) := by decide +kernel
theorem dX11_ofBoat_87 : decode cX11_ofBoat 87 = .ok (.iload_n 1, 1) := by decide +kernel
theorem dX11_ofBoat_88 : decode cX11_ofBoat 88 = .ok (.invokevirtual 198, 3) := by decide +kernel
theorem dX11_ofBoat_91 : decode cX11_ofBoat 91 = .ok (.ireturn, 1) := by decide +kernel
theorem dX11_ofBoat_92 : decode cX11_ofBoat 92 = .ok (.aload_n 0, 1) := by decide +kernel
theorem dX11_ofBoat_93 : decode cX11_ofBoat 93 = .ok (.iload_n 1, 1) := by decide +kernel
theorem dX11_ofBoat_94 : decode cX11_ofBoat 94 = .ok (.invokevirtual 217, 3) := by decide +kernel
theorem dX11_ofBoat_97 : decode cX11_ofBoat 97 = .ok (.ireturn, 1) := by decide +kernel
theorem dX11_ofBoat_98 : decode cX11_ofBoat 98 = .ok (.aload_n 0, 1) := by decide +kernel
theorem dX11_ofBoat_99 : decode cX11_ofBoat 99 = .ok (.iload_n 1, 1) := by decide +kernel
theorem dX11_ofBoat_100 : decode cX11_ofBoat 100 = .ok (.iload_n 2, 1) := by decide +kernel
theorem dX11_ofBoat_101 : decode cX11_ofBoat 101 = .ok (.invokevirtual 171, 3) := by decide +kernel
theorem dX11_ofBoat_104 : decode cX11_ofBoat 104 = .ok (.ireturn, 1) := by decide +kernel
theorem dX11_change_0 : decode cX11_change 0 = .ok (.iload_n 2, 1) := by decide +kernel
theorem dX11_change_1 : decode cX11_change 1 = .ok (.ifCond .ne 10, 3) := by decide +kernel
theorem dX11_change_4 : decode cX11_change 4 = .ok (.iload_n 3, 1) := by decide +kernel
theorem dX11_change_5 : decode cX11_change 5 = .ok (.invokestatic 165, 3) := by decide +kernel
theorem dX11_change_8 : decode cX11_change 8 = .ok (.goto 20, 3) := by decide +kernel
theorem dX11_change_11 : decode cX11_change 11 = .ok (.iload_n 2, 1) := by decide +kernel
theorem dX11_change_12 : decode cX11_change 12 = .ok (.iconst 1, 1) := by decide +kernel
theorem dX11_change_13 : decode cX11_change 13 = .ok (.if_icmp .ne 14, 3) := by decide +kernel
theorem dX11_change_16 : decode cX11_change 16 = .ok (.iload_n 3, 1) := by decide +kernel
theorem dX11_change_17 : decode cX11_change 17 = .ok (.invokestatic 162, 3) := by decide +kernel
theorem dX11_change_20 : decode cX11_change 20 = .ok (.ifCond .eq 7, 3) := by decide +kernel
theorem dX11_change_23 : decode cX11_change 23 = .ok (.iconst 1, 1) := by decide +kernel
theorem dX11_change_24 : decode cX11_change 24 = .ok (.goto 4, 3) := by decide +kernel
theorem dX11_change_27 : decode cX11_change 27 = .ok (.iconst 0, 1) := by decide +kernel
theorem dX11_change_28 : decode cX11_change 28 = .ok (.istore 4, 2) := by decide +kernel
theorem dX11_change_30 : decode cX11_change 30 = .ok (.aload_n 0, 1) := by decide +kernel
theorem dX11_change_31 : decode cX11_change 31 = .ok (.iload_n 1, 1) := by decide +kernel
theorem dX11_change_32 : decode cX11_change 32 = .ok (.invokevirtual 205, 3) := by decide +kernel
theorem dX11_change_35 : decode cX11_change 35 = .ok (.ifCond .eq 23, 3) := by decide +kernel
theorem dX11_change_38 : decode cX11_change 38 = .ok (.iload 4, 2) := by decide +kernel
theorem dX11_change_40 : decode cX11_change 40 = .ok (.ifCond .eq 18, 3) := by decide +kernel
theorem dX11_change_43 : decode cX11_change 43 = .ok (.aload_n 0, 1) := by decide +kernel
theorem dX11_change_44 : decode cX11_change 44 = .ok (.iload_n 1, 1) := by decide +kernel
theorem dX11_change_45 : decode cX11_change 45 = .ok (.iconst 2, 1) := by decide +kernel
theorem dX11_change_46 : decode cX11_change 46 = .ok (.iload_n 2, 1) := by decide +kernel
theorem dX11_change_47 : decode cX11_change 47 = .ok (.iadd, 1) := by decide +kernel
theorem dX11_change_48 : decode cX11_change 48 = .ok (.invokestatic 186, 3) := by decide +kernel
theorem dX11_change_51 : decode cX11_change 51 = .ok (.iload_n 3, 1) := by decide +kernel
theorem dX11_change_52 : decode cX11_change 52 = .ok (.invokevirtual 168, 3) := by decide +kernel
theorem dX11_change_55 : decode cX11_change 55 = .ok (.goto 9, 3) := by decide +kernel
theorem dX11_change_58 : decode cX11_change 58 = .ok (.aload_n 0, 1) := by decide +kernel
theorem dX11_change_59 : decode cX11_change 59 = .ok (.ldc 81, 2) := by decide +kernel
theorem dX11_change_61 : decode cX11_change 61 = .ok (.invokevirtual 82, 3) := by decide +kernel
theorem dX11_change_64 : decode cX11_change 64 = .ok (.ireturn, 1) := by decide +kernel
theorem dX11_become_0 : decode cX11_become 0 = .ok (.aload_n 0, 1) := by decide +kernel
theorem dX11_become_1 : decode cX11_become 1 = .ok (.iload_n 1, 1) := by decide +kernel
theorem dX11_become_2 : decode cX11_become 2 = .ok (.invokevirtual 205, 3) := by decide +kernel
theorem dX11_become_5 : decode cX11_become 5 = .ok (.ifCond .eq 10, 3) := by decide +kernel
theorem dX11_become_8 : decode cX11_become 8 = .ok (.iload_n 2, 1) := by decide +kernel
theorem dX11_become_9 : decode cX11_become 9 = .ok (.invokestatic 189, 3) := by decide +kernel
theorem dX11_become_12 : decode cX11_become 12 = .ok (.ifCond .ne 10, 3) := by decide +kernel
theorem dX11_become_15 : decode cX11_become 15 = .ok (.aload_n 0, 1) := by decide +kernel
theorem dX11_become_16 : decode cX11_become 16 = .ok (.ldc 81, 2) := by decide +kernel
theorem dX11_become_18 : decode cX11_become 18 = .ok (.invokevirtual 82, 3) := by decide +kernel
theorem dX11_become_21 : decode cX11_become 21 = .ok (.ireturn, 1) := by decide +kernel
theorem dX11_become_22 : decode cX11_become 22 = .ok (.aload_n 0, 1) := by decide +kernel
theorem dX11_become_23 : decode cX11_become 23 = .ok (.getfield 9, 3) := by decide +kernel
theorem dX11_become_26 : decode cX11_become 26 = .ok (.iload_n 1, 1) := by decide +kernel
theorem dX11_become_27 : decode cX11_become 27 = .ok (.iconst 1, 1) := by decide +kernel
theorem dX11_become_28 : decode cX11_become 28 = .ok (.invokestatic 186, 3) := by decide +kernel
theorem dX11_become_31 : decode cX11_become 31 = .ok (.iload_n 2, 1) := by decide +kernel
theorem dX11_become_32 : decode cX11_become 32 = .ok (.bipush 10, 2) := by decide +kernel
theorem dX11_become_34 : decode cX11_become 34 = .ok (.irem, 1) := by decide +kernel
theorem dX11_become_35 : decode cX11_become 35 = .ok (.iastore, 1) := by decide +kernel
theorem dX11_become_36 : decode cX11_become 36 = .ok (.aload_n 0, 1) := by decide +kernel
theorem dX11_become_37 : decode cX11_become 37 = .ok (.iload_n 1, 1) := by decide +kernel
theorem dX11_become_38 : decode cX11_become 38 = .ok (.iconst 0, 1) := by decide +kernel
theorem dX11_become_39 : decode cX11_become 39 = .ok (.invokestatic 186, 3) := by decide +kernel
theorem dX11_become_42 : decode cX11_become 42 = .ok (.iload_n 2, 1) := by decide +kernel
theorem dX11_become_43 : decode cX11_become 43 = .ok (.bipush 10, 2) := by decide +kernel
theorem dX11_become_45 : decode cX11_become 45 = .ok (.idiv, 1) := by decide +kernel
theorem dX11_become_46 : decode cX11_become 46 = .ok (.invokevirtual 168, 3) := by decide +kernel
theorem dX11_become_49 : decode cX11_become 49 = .ok (.ireturn, 1) := by decide +kernel
theorem dX11_as_0 : decode cX11_as 0 = .ok (.aload_n 0, 1) := by decide +kernel
theorem dX11_as_1 : decode cX11_as 1 = .ok (.iload_n 1, 1) := by decide +kernel
theorem dX11_as_2 : decode cX11_as 2 = .ok (.invokevirtual 205, 3) := by decide +kernel
theorem dX11_as_5 : decode cX11_as 5 = .ok (.ifCond .eq 13, 3) := by decide +kernel
theorem dX11_as_8 : decode cX11_as 8 = .ok (.iload_n 2, 1) := by decide +kernel
theorem dX11_as_9 : decode cX11_as 9 = .ok (.iconst 0, 1) := by decide +kernel
theorem dX11_as_10 : decode cX11_as 10 = .ok (.bipush 6, 2) := by decide +kernel
theorem dX11_as_12 : decode cX11_as 12 = .ok (.invokestatic 77, 3) := by decide +kernel
theorem dX11_as_15 : decode cX11_as 15 = .ok (.ifCond .ne 10, 3) := by decide +kernel
theorem dX11_as_18 : decode cX11_as 18 = .ok (.aload_n 0, 1) := by decide +kernel
theorem dX11_as_19 : decode cX11_as 19 = .ok (.ldc 81, 2) := by decide +kernel
theorem dX11_as_21 : decode cX11_as 21 = .ok (.invokevirtual 82, 3) := by decide +kernel
theorem dX11_as_24 : decode cX11_as 24 = .ok (.ireturn, 1) := by decide +kernel
theorem dX11_as_25 : decode cX11_as 25 = .ok (.aload_n 0, 1) := by decide +kernel
theorem dX11_as_26 : decode cX11_as 26 = .ok (.iload_n 1, 1) := by decide +kernel
theorem dX11_as_27 : decode cX11_as 27 = .ok (.iconst 0, 1) := by decide +kernel
theorem dX11_as_28 : decode cX11_as 28 = .ok (.invokevirtual 171, 3) := by decide +kernel
theorem dX11_as_31 : decode cX11_as 31 = .ok (.iload_n 2, 1) := by decide +kernel
theorem dX11_as_32 : decode cX11_as 32 = .ok (.invokestatic 220, 3) := by decide +kernel
theorem dX11_as_35 : decode cX11_as 35 = .ok (.ifCond .eq 12, 3) := by decide +kernel
theorem dX11_as_38 : decode cX11_as 38 = .ok (.aload_n 0, 1) := by decide +kernel
theorem dX11_as_39 : decode cX11_as 39 = .ok (.iload_n 1, 1) := by decide +kernel
theorem dX11_as_40 : decode cX11_as 40 = .ok (.iconst 1, 1) := by decide +kernel
theorem dX11_as_41 : decode cX11_as 41 = .ok (.invokevirtual 171, 3) := by decide +kernel
theorem dX11_as_44 : decode cX11_as 44 = .ok (.goto 9, 3) := by decide +kernel
theorem dX11_as_47 : decode cX11_as 47 = .ok (.aload_n 0, 1) := by decide +kernel
theorem dX11_as_48 : decode cX11_as 48 = .ok (.ldc 224, 2) := by decide +kernel
theorem dX11_as_50 : decode cX11_as 50 = .ok (.invokevirtual 82, 3) := by decide +kernel
theorem dX11_as_53 : decode cX11_as 53 = .ok (.ireturn, 1) := by decide +kernel
theorem dX11_next_0 : decode cX11_next 0 = .ok (.iload_n 1, 1) := by decide +kernel
theorem dX11_next_1 : decode cX11_next 1 = .ok (.tableswitch 87 1 4 #[31, 44, 59, 73], 31) := by decide +kernel
theorem dX11_next_32 : decode cX11_next 32 = .ok (.iload_n 0, 1) := by decide +kernel
theorem dX11_next_33 : decode cX11_next 33 = .ok (.iconst 4, 1) := by decide +kernel
theorem dX11_next_34 : decode cX11_next 34 = .ok (.if_icmp .ge 7, 3) := by decide +kernel
theorem dX11_next_37 : decode cX11_next 37 = .ok (.iload_n 0, 1) := by decide +kernel
theorem dX11_next_38 : decode cX11_next 38 = .ok (.goto 6, 3) := by decide +kernel
theorem dX11_next_41 : decode cX11_next 41 = .ok (.iload_n 0, 1) := by decide +kernel
theorem dX11_next_42 : decode cX11_next 42 = .ok (.iconst 4, 1) := by decide +kernel
theorem dX11_next_43 : decode cX11_next 43 = .ok (.isub, 1) := by decide +kernel
theorem dX11_next_44 : decode cX11_next 44 = .ok (.ireturn, 1) := by decide +kernel
theorem dX11_next_45 : decode cX11_next 45 = .ok (.iload_n 0, 1) := by decide +kernel
theorem dX11_next_46 : decode cX11_next 46 = .ok (.iconst 4, 1) := by decide +kernel
theorem dX11_next_47 : decode cX11_next 47 = .ok (.irem, 1) := by decide +kernel
theorem dX11_next_48 : decode cX11_next 48 = .ok (.iconst 3, 1) := by decide +kernel
theorem dX11_next_49 : decode cX11_next 49 = .ok (.if_icmp .ne 7, 3) := by decide +kernel
theorem dX11_next_52 : decode cX11_next 52 = .ok (.iload_n 0, 1) := by decide +kernel
theorem dX11_next_53 : decode cX11_next 53 = .ok (.goto 6, 3) := by decide +kernel
theorem dX11_next_56 : decode cX11_next 56 = .ok (.iload_n 0, 1) := by decide +kernel
theorem dX11_next_57 : decode cX11_next 57 = .ok (.iconst 1, 1) := by decide +kernel
theorem dX11_next_58 : decode cX11_next 58 = .ok (.iadd, 1) := by decide +kernel
theorem dX11_next_59 : decode cX11_next 59 = .ok (.ireturn, 1) := by decide +kernel
theorem dX11_next_60 : decode cX11_next 60 = .ok (.iload_n 0, 1) := by decide +kernel
theorem dX11_next_61 : decode cX11_next 61 = .ok (.bipush 11, 2) := by decide +kernel
theorem dX11_next_63 : decode cX11_next 63 = .ok (.if_icmp .le 7, 3) := by decide +kernel
theorem dX11_next_66 : decode cX11_next 66 = .ok (.iload_n 0, 1) := by decide +kernel
theorem dX11_next_67 : decode cX11_next 67 = .ok (.goto 6, 3) := by decide +kernel
theorem dX11_next_70 : decode cX11_next 70 = .ok (.iload_n 0, 1) := by decide +kernel
theorem dX11_next_71 : decode cX11_next 71 = .ok (.iconst 4, 1) := by decide +kernel
theorem dX11_next_72 : decode cX11_next 72 = .ok (.iadd, 1) := by decide +kernel
theorem dX11_next_73 : decode cX11_next 73 = .ok (.ireturn, 1) := by decide +kernel
theorem dX11_next_74 : decode cX11_next 74 = .ok (.iload_n 0, 1) := by decide +kernel
theorem dX11_next_75 : decode cX11_next 75 = .ok (.iconst 4, 1) := by decide +kernel
theorem dX11_next_76 : decode cX11_next 76 = .ok (.irem, 1) := by decide +kernel
theorem dX11_next_77 : decode cX11_next 77 = .ok (.ifCond .ne 7, 3) := by decide +kernel
theorem dX11_next_80 : decode cX11_next 80 = .ok (.iload_n 0, 1) := by decide +kernel
theorem dX11_next_81 : decode cX11_next 81 = .ok (.goto 6, 3) := by decide +kernel
theorem dX11_next_84 : decode cX11_next 84 = .ok (.iload_n 0, 1) := by decide +kernel
theorem dX11_next_85 : decode cX11_next 85 = .ok (.iconst 1, 1) := by decide +kernel
theorem dX11_next_86 : decode cX11_next 86 = .ok (.isub, 1) := by decide +kernel
theorem dX11_next_87 : decode cX11_next 87 = .ok (.ireturn, 1) := by decide +kernel
theorem dX11_next_88 : decode cX11_next 88 = .ok (.iload_n 0, 1) := by decide +kernel
theorem dX11_next_89 : decode cX11_next 89 = .ok (.ireturn, 1) := by decide +kernel
theorem dX11_isDipped_0 : decode cX11_isDipped 0 = .ok (.bipush 34, 2) := by decide +kernel
theorem dX11_isDipped_2 : decode cX11_isDipped 2 = .ok (.aload_n 0, 1) := by decide +kernel
theorem dX11_isDipped_3 : decode cX11_isDipped 3 = .ok (.iload_n 1, 1) := by decide +kernel
theorem dX11_isDipped_4 : decode cX11_isDipped 4 = .ok (.iconst 2, 1) := by decide +kernel
theorem dX11_isDipped_5 : decode cX11_isDipped 5 = .ok (.invokevirtual 171, 3) := by decide +kernel
theorem dX11_isDipped_8 : decode cX11_isDipped 8 = .ok (.iadd, 1) := by decide +kernel
theorem dX11_isDipped_9 : decode cX11_isDipped 9 = .ok (.istore_n 2, 1) := by decide +kernel
theorem dX11_isDipped_10 : decode cX11_isDipped 10 = .ok (.aload_n 0, 1) := by decide +kernel
theorem dX11_isDipped_11 : decode cX11_isDipped 11 = .ok (.iload_n 1, 1) := by decide +kernel
theorem dX11_isDipped_12 : decode cX11_isDipped 12 = .ok (.aload_n 0, 1) := by decide +kernel
theorem dX11_isDipped_13 : decode cX11_isDipped 13 = .ok (.getfield 9, 3) := by decide +kernel
theorem dX11_isDipped_16 : decode cX11_isDipped 16 = .ok (.iload_n 2, 1) := by decide +kernel
theorem dX11_isDipped_17 : decode cX11_isDipped 17 = .ok (.iaload, 1) := by decide +kernel
theorem dX11_isDipped_18 : decode cX11_isDipped 18 = .ok (.invokevirtual 208, 3) := by decide +kernel
theorem dX11_isDipped_21 : decode cX11_isDipped 21 = .ok (.aload_n 0, 1) := by decide +kernel
theorem dX11_isDipped_22 : decode cX11_isDipped 22 = .ok (.getfield 9, 3) := by decide +kernel
theorem dX11_isDipped_25 : decode cX11_isDipped 25 = .ok (.iload_n 2, 1) := by decide +kernel
theorem dX11_isDipped_26 : decode cX11_isDipped 26 = .ok (.iaload, 1) := by decide +kernel
theorem dX11_isDipped_27 : decode cX11_isDipped 27 = .ok (.bipush 99, 2) := by decide +kernel
theorem dX11_isDipped_29 : decode cX11_isDipped 29 = .ok (.aload_n 0, 1) := by decide +kernel
theorem dX11_isDipped_30 : decode cX11_isDipped 30 = .ok (.iload_n 1, 1) := by decide +kernel
theorem dX11_isDipped_31 : decode cX11_isDipped 31 = .ok (.iconst 3, 1) := by decide +kernel
theorem dX11_isDipped_32 : decode cX11_isDipped 32 = .ok (.invokevirtual 171, 3) := by decide +kernel
theorem dX11_isDipped_35 : decode cX11_isDipped 35 = .ok (.isub, 1) := by decide +kernel
theorem dX11_isDipped_36 : decode cX11_isDipped 36 = .ok (.invokestatic 64, 3) := by decide +kernel
theorem dX11_isDipped_39 : decode cX11_isDipped 39 = .ok (.invokestatic 64, 3) := by decide +kernel
theorem dX11_isDipped_42 : decode cX11_isDipped 42 = .ok (.istore_n 3, 1) := by decide +kernel
theorem dX11_isDipped_43 : decode cX11_isDipped 43 = .ok (.aload_n 0, 1) := by decide +kernel
theorem dX11_isDipped_44 : decode cX11_isDipped 44 = .ok (.getfield 9, 3) := by decide +kernel
theorem dX11_isDipped_47 : decode cX11_isDipped 47 = .ok (.iload_n 2, 1) := by decide +kernel
theorem dX11_isDipped_48 : decode cX11_isDipped 48 = .ok (.dup2, 1) := by decide +kernel
theorem dX11_isDipped_49 : decode cX11_isDipped 49 = .ok (.iaload, 1) := by decide +kernel
theorem dX11_isDipped_50 : decode cX11_isDipped 50 = .ok (.iload_n 3, 1) := by decide +kernel
theorem dX11_isDipped_51 : decode cX11_isDipped 51 = .ok (.isub, 1) := by decide +kernel
theorem dX11_isDipped_52 : decode cX11_isDipped 52 = .ok (.iastore, 1) := by decide +kernel
theorem dX11_isDipped_53 : decode cX11_isDipped 53 = .ok (.aload_n 0, 1) := by decide +kernel
theorem dX11_isDipped_54 : decode cX11_isDipped 54 = .ok (.getfield 9, 3) := by decide +kernel
theorem dX11_isDipped_57 : decode cX11_isDipped 57 = .ok (.iload_n 1, 1) := by decide +kernel
theorem dX11_isDipped_58 : decode cX11_isDipped 58 = .ok (.iconst 3, 1) := by decide +kernel
theorem dX11_isDipped_59 : decode cX11_isDipped 59 = .ok (.invokestatic 186, 3) := by decide +kernel
theorem dX11_isDipped_62 : decode cX11_isDipped 62 = .ok (.dup2, 1) := by decide +kernel
theorem dX11_isDipped_63 : decode cX11_isDipped 63 = .ok (.iaload, 1) := by decide +kernel
theorem dX11_isDipped_64 : decode cX11_isDipped 64 = .ok (.iload_n 3, 1) := by decide +kernel
theorem dX11_isDipped_65 : decode cX11_isDipped 65 = .ok (.iadd, 1) := by decide +kernel
theorem dX11_isDipped_66 : decode cX11_isDipped 66 = .ok (.iastore, 1) := by decide +kernel
theorem dX11_isDipped_67 : decode cX11_isDipped 67 = .ok (.return_, 1) := by decide +kernel
theorem dX11_minute_0 : decode cX11_minute 0 = .ok (.aload_n 0, 1) := by decide +kernel
theorem dX11_minute_1 : decode cX11_minute 1 = .ok (.invokevirtual 201, 3) := by decide +kernel
theorem dX11_minute_4 : decode cX11_minute 4 = .ok (.istore_n 1, 1) := by decide +kernel
theorem dX11_minute_5 : decode cX11_minute 5 = .ok (.iconst 0, 1) := by decide +kernel
theorem dX11_minute_6 : decode cX11_minute 6 = .ok (.istore_n 2, 1) := by decide +kernel
theorem dX11_minute_7 : decode cX11_minute 7 = .ok (.iload_n 2, 1) := by decide +kernel
theorem dX11_minute_8 : decode cX11_minute 8 = .ok (.bipush 16, 2) := by decide +kernel
theorem dX11_minute_10 : decode cX11_minute 10 = .ok (.if_icmp .ge 48, 3) := by decide +kernel
theorem dX11_minute_13 : decode cX11_minute 13 = .ok (.aload_n 0, 1) := by decide +kernel
theorem dX11_minute_14 : decode cX11_minute 14 = .ok (.getfield 9, 3) := by decide +kernel
theorem dX11_minute_17 : decode cX11_minute 17 = .ok (.bipush 34, 2) := by decide +kernel
theorem dX11_minute_19 : decode cX11_minute 19 = .ok (.iload_n 2, 1) := by decide +kernel
theorem dX11_minute_20 : decode cX11_minute 20 = .ok (.iadd, 1) := by decide +kernel
theorem dX11_minute_21 : decode cX11_minute 21 = .ok (.aload_n 0, 1) := by decide +kernel
theorem dX11_minute_22 : decode cX11_minute 22 = .ok (.getfield 9, 3) := by decide +kernel
theorem dX11_minute_25 : decode cX11_minute 25 = .ok (.bipush 34, 2) := by decide +kernel
theorem dX11_minute_27 : decode cX11_minute 27 = .ok (.iload_n 2, 1) := by decide +kernel
theorem dX11_minute_28 : decode cX11_minute 28 = .ok (.iadd, 1) := by decide +kernel
theorem dX11_minute_29 : decode cX11_minute 29 = .ok (.iaload, 1) := by decide +kernel
theorem dX11_minute_30 : decode cX11_minute 30 = .ok (.iload_n 1, 1) := by decide +kernel
theorem dX11_minute_31 : decode cX11_minute 31 = .ok (.ifCond .eq 11, 3) := by decide +kernel
theorem dX11_minute_34 : decode cX11_minute 34 = .ok (.aload_n 0, 1) := by decide +kernel
theorem dX11_minute_35 : decode cX11_minute 35 = .ok (.iload_n 2, 1) := by decide +kernel
theorem dX11_minute_36 : decode cX11_minute 36 = .ok (.invokevirtual 177, 3) := by decide +kernel
theorem dX11_minute_39 : decode cX11_minute 39 = .ok (.goto 5, 3) := by decide +kernel
theorem dX11_minute_42 : decode cX11_minute 42 = .ok (.bipush (-7), 2) := by decide +kernel
theorem dX11_minute_44 : decode cX11_minute 44 = .ok (.iadd, 1) := by decide +kernel
theorem dX11_minute_45 : decode cX11_minute 45 = .ok (.iconst 0, 1) := by decide +kernel
theorem dX11_minute_46 : decode cX11_minute 46 = .ok (.bipush 99, 2) := by decide +kernel
theorem dX11_minute_48 : decode cX11_minute 48 = .ok (.invokestatic 155, 3) := by decide +kernel
theorem dX11_minute_51 : decode cX11_minute 51 = .ok (.iastore, 1) := by decide +kernel
theorem dX11_minute_52 : decode cX11_minute 52 = .ok (.iinc 2 1, 3) := by decide +kernel
theorem dX11_minute_55 : decode cX11_minute 55 = .ok (.goto (-48), 3) := by decide +kernel
theorem dX11_minute_58 : decode cX11_minute 58 = .ok (.iconst 0, 1) := by decide +kernel
theorem dX11_minute_59 : decode cX11_minute 59 = .ok (.istore_n 2, 1) := by decide +kernel
theorem dX11_minute_60 : decode cX11_minute 60 = .ok (.iload_n 2, 1) := by decide +kernel
theorem dX11_minute_61 : decode cX11_minute 61 = .ok (.aload_n 0, 1) := by decide +kernel
theorem dX11_minute_62 : decode cX11_minute 62 = .ok (.getfield 9, 3) := by decide +kernel
theorem dX11_minute_65 : decode cX11_minute 65 = .ok (.iconst 1, 1) := by decide +kernel
theorem dX11_minute_66 : decode cX11_minute 66 = .ok (.iaload, 1) := by decide +kernel
theorem dX11_minute_67 : decode cX11_minute 67 = .ok (.if_icmp .ge 14, 3) := by decide +kernel
theorem dX11_minute_70 : decode cX11_minute 70 = .ok (.aload_n 0, 1) := by decide +kernel
theorem dX11_minute_71 : decode cX11_minute 71 = .ok (.iload_n 2, 1) := by decide +kernel
theorem dX11_minute_72 : decode cX11_minute 72 = .ok (.invokevirtual 225, 3) := by decide +kernel
theorem dX11_minute_75 : decode cX11_minute 75 = .ok (.iinc 2 1, 3) := by decide +kernel
theorem dX11_minute_78 : decode cX11_minute 78 = .ok (.goto (-18), 3) := by decide +kernel
theorem dX11_minute_81 : decode cX11_minute 81 = .ok (.iconst 0, 1) := by decide +kernel
theorem dX11_minute_82 : decode cX11_minute 82 = .ok (.istore_n 2, 1) := by decide +kernel
theorem dX11_minute_83 : decode cX11_minute 83 = .ok (.iload_n 2, 1) := by decide +kernel
theorem dX11_minute_84 : decode cX11_minute 84 = .ok (.aload_n 0, 1) := by decide +kernel
theorem dX11_minute_85 : decode cX11_minute 85 = .ok (.getfield 9, 3) := by decide +kernel
theorem dX11_minute_88 : decode cX11_minute 88 = .ok (.iconst 1, 1) := by decide +kernel
theorem dX11_minute_89 : decode cX11_minute 89 = .ok (.iaload, 1) := by decide +kernel
theorem dX11_minute_90 : decode cX11_minute 90 = .ok (.if_icmp .ge 80, 3) := by decide +kernel
theorem dX11_minute_93 : decode cX11_minute 93 = .ok (.iload_n 2, 1) := by decide +kernel
theorem dX11_minute_94 : decode cX11_minute 94 = .ok (.aload_n 0, 1) := by decide +kernel
theorem dX11_minute_95 : decode cX11_minute 95 = .ok (.getfield 22, 3) := by decide +kernel
theorem dX11_minute_98 : decode cX11_minute 98 = .ok (.if_icmp .ne 10, 3) := by decide +kernel
theorem dX11_minute_101 : decode cX11_minute 101 = .ok (.aload_n 0, 1) := by decide +kernel
theorem dX11_minute_102 : decode cX11_minute 102 = .ok (.getfield 228, 3) := by decide +kernel
theorem dX11_minute_105 : decode cX11_minute 105 = .ok (.goto 12, 3) := by decide +kernel
theorem dX11_minute_108 : decode cX11_minute 108 = .ok (.aload_n 0, 1) := by decide +kernel
theorem dX11_minute_109 : decode cX11_minute 109 = .ok (.iload_n 2, 1) := by decide +kernel
theorem dX11_minute_110 : decode cX11_minute 110 = .ok (.aload_n 0, 1) := by decide +kernel
theorem dX11_minute_111 : decode cX11_minute 111 = .ok (.invokevirtual 211, 3) := by decide +kernel
theorem dX11_minute_114 : decode cX11_minute 114 = .ok (.invokevirtual 214, 3) := by decide +kernel
theorem dX11_minute_117 : decode cX11_minute 117 = .ok (.istore_n 3, 1) := by decide +kernel
theorem dX11_minute_118 : decode cX11_minute 118 = .ok (.aload_n 0, 1) := by decide +kernel
theorem dX11_minute_119 : decode cX11_minute 119 = .ok (.getfield 9, 3) := by decide +kernel
theorem dX11_minute_122 : decode cX11_minute 122 = .ok (.iload_n 2, 1) := by decide +kernel
theorem dX11_minute_123 : decode cX11_minute 123 = .ok (.iconst 2, 1) := by decide +kernel
theorem dX11_minute_124 : decode cX11_minute 124 = .ok (.invokestatic 186, 3) := by decide +kernel
theorem dX11_minute_127 : decode cX11_minute 127 = .ok (.aload_n 0, 1) := by decide +kernel
theorem dX11_minute_128 : decode cX11_minute 128 = .ok (.iload_n 2, 1) := by decide +kernel
theorem dX11_minute_129 : decode cX11_minute 129 = .ok (.iconst 2, 1) := by decide +kernel
theorem dX11_minute_130 : decode cX11_minute 130 = .ok (.invokevirtual 171, 3) := by decide +kernel
theorem dX11_minute_133 : decode cX11_minute 133 = .ok (.iload_n 3, 1) := by decide +kernel
theorem dX11_minute_134 : decode cX11_minute 134 = .ok (.invokestatic 231, 3) := by decide +kernel
theorem dX11_minute_137 : decode cX11_minute 137 = .ok (.iastore, 1) := by decide +kernel
theorem dX11_minute_138 : decode cX11_minute 138 = .ok (.aload_n 0, 1) := by decide +kernel
theorem dX11_minute_139 : decode cX11_minute 139 = .ok (.getfield 9, 3) := by decide +kernel
theorem dX11_minute_142 : decode cX11_minute 142 = .ok (.iload_n 2, 1) := by decide +kernel
theorem dX11_minute_143 : decode cX11_minute 143 = .ok (.iconst 3, 1) := by decide +kernel
theorem dX11_minute_144 : decode cX11_minute 144 = .ok (.invokestatic 186, 3) := by decide +kernel
theorem dX11_minute_147 : decode cX11_minute 147 = .ok (.iconst 0, 1) := by decide +kernel
theorem dX11_minute_148 : decode cX11_minute 148 = .ok (.aload_n 0, 1) := by decide +kernel
theorem dX11_minute_149 : decode cX11_minute 149 = .ok (.iload_n 2, 1) := by decide +kernel
theorem dX11_minute_150 : decode cX11_minute 150 = .ok (.iconst 3, 1) := by decide +kernel
theorem dX11_minute_151 : decode cX11_minute 151 = .ok (.invokevirtual 171, 3) := by decide +kernel
theorem dX11_minute_154 : decode cX11_minute 154 = .ok (.aload_n 0, 1) := by decide +kernel
theorem dX11_minute_155 : decode cX11_minute 155 = .ok (.iload_n 2, 1) := by decide +kernel
theorem dX11_minute_156 : decode cX11_minute 156 = .ok (.invokevirtual 217, 3) := by decide +kernel
theorem dX11_minute_159 : decode cX11_minute 159 = .ok (.isub, 1) := by decide +kernel
theorem dX11_minute_160 : decode cX11_minute 160 = .ok (.invokestatic 70, 3) := by decide +kernel
theorem dX11_minute_163 : decode cX11_minute 163 = .ok (.iastore, 1) := by decide +kernel
theorem dX11_minute_164 : decode cX11_minute 164 = .ok (.iinc 2 1, 3) := by decide +kernel
theorem dX11_minute_167 : decode cX11_minute 167 = .ok (.goto (-84), 3) := by decide +kernel
theorem dX11_minute_170 : decode cX11_minute 170 = .ok (.aload_n 0, 1) := by decide +kernel
theorem dX11_minute_171 : decode cX11_minute 171 = .ok (.getfield 9, 3) := by decide +kernel
theorem dX11_minute_174 : decode cX11_minute 174 = .ok (.iconst 0, 1) := by decide +kernel
theorem dX11_minute_175 : decode cX11_minute 175 = .ok (.dup2, 1) := by decide +kernel
theorem dX11_minute_176 : decode cX11_minute 176 = .ok (.iaload, 1) := by decide +kernel
theorem dX11_minute_177 : decode cX11_minute 177 = .ok (.iconst 1, 1) := by decide +kernel
theorem dX11_minute_178 : decode cX11_minute 178 = .ok (.iadd, 1) := by decide +kernel
theorem dX11_minute_179 : decode cX11_minute 179 = .ok (.iastore, 1) := by decide +kernel
theorem dX11_minute_180 : decode cX11_minute 180 = .ok (.return_, 1) := by decide +kernel
theorem dX11_had_0 : decode cX11_had 0 = .ok (.iconst 0, 1) := by decide +kernel
theorem dX11_had_1 : decode cX11_had 1 = .ok (.istore_n 1, 1) := by decide +kernel
theorem dX11_had_2 : decode cX11_had 2 = .ok (.iconst 0, 1) := by decide +kernel
theorem dX11_had_3 : decode cX11_had 3 = .ok (.istore_n 2, 1) := by decide +kernel
theorem dX11_had_4 : decode cX11_had 4 = .ok (.iload_n 2, 1) := by decide +kernel
theorem dX11_had_5 : decode cX11_had 5 = .ok (.aload_n 0, 1) := by decide +kernel
theorem dX11_had_6 : decode cX11_had 6 = .ok (.getfield 9, 3) := by decide +kernel
theorem dX11_had_9 : decode cX11_had 9 = .ok (.iconst 1, 1) := by decide +kernel
theorem dX11_had_10 : decode cX11_had 10 = .ok (.iaload, 1) := by decide +kernel
theorem dX11_had_11 : decode cX11_had 11 = .ok (.if_icmp .ge 18, 3) := by decide +kernel
theorem dX11_had_14 : decode cX11_had 14 = .ok (.iload_n 1, 1) := by decide +kernel
theorem dX11_had_15 : decode cX11_had 15 = .ok (.aload_n 0, 1) := by decide +kernel
theorem dX11_had_16 : decode cX11_had 16 = .ok (.iload_n 2, 1) := by decide +kernel
theorem dX11_had_17 : decode cX11_had 17 = .ok (.iconst 3, 1) := by decide +kernel
theorem dX11_had_18 : decode cX11_had 18 = .ok (.invokevirtual 171, 3) := by decide +kernel
theorem dX11_had_21 : decode cX11_had 21 = .ok (.iadd, 1) := by decide +kernel
theorem dX11_had_22 : decode cX11_had 22 = .ok (.istore_n 1, 1) := by decide +kernel
theorem dX11_had_23 : decode cX11_had 23 = .ok (.iinc 2 1, 3) := by decide +kernel
theorem dX11_had_26 : decode cX11_had 26 = .ok (.goto (-22), 3) := by decide +kernel
theorem dX11_had_29 : decode cX11_had 29 = .ok (.iload_n 1, 1) := by decide +kernel
theorem dX11_had_30 : decode cX11_had 30 = .ok (.ireturn, 1) := by decide +kernel
theorem dX11_stuff_0 : decode cX11_stuff 0 = .ok (.iconst 0, 1) := by decide +kernel
theorem dX11_stuff_1 : decode cX11_stuff 1 = .ok (.istore_n 1, 1) := by decide +kernel
theorem dX11_stuff_2 : decode cX11_stuff 2 = .ok (.iconst 0, 1) := by decide +kernel
theorem dX11_stuff_3 : decode cX11_stuff 3 = .ok (.istore_n 2, 1) := by decide +kernel
theorem dX11_stuff_4 : decode cX11_stuff 4 = .ok (.iload_n 2, 1) := by decide +kernel
theorem dX11_stuff_5 : decode cX11_stuff 5 = .ok (.bipush 16, 2) := by decide +kernel
theorem dX11_stuff_7 : decode cX11_stuff 7 = .ok (.if_icmp .ge 21, 3) := by decide +kernel
theorem dX11_stuff_10 : decode cX11_stuff 10 = .ok (.iload_n 1, 1) := by decide +kernel
theorem dX11_stuff_11 : decode cX11_stuff 11 = .ok (.aload_n 0, 1) := by decide +kernel
theorem dX11_stuff_12 : decode cX11_stuff 12 = .ok (.getfield 9, 3) := by decide +kernel
theorem dX11_stuff_15 : decode cX11_stuff 15 = .ok (.bipush 34, 2) := by decide +kernel
theorem dX11_stuff_17 : decode cX11_stuff 17 = .ok (.iload_n 2, 1) := by decide +kernel
theorem dX11_stuff_18 : decode cX11_stuff 18 = .ok (.iadd, 1) := by decide +kernel
theorem dX11_stuff_19 : decode cX11_stuff 19 = .ok (.iaload, 1) := by decide +kernel
theorem dX11_stuff_20 : decode cX11_stuff 20 = .ok (.iadd, 1) := by decide +kernel
theorem dX11_stuff_21 : decode cX11_stuff 21 = .ok (.istore_n 1, 1) := by decide +kernel
theorem dX11_stuff_22 : decode cX11_stuff 22 = .ok (.iinc 2 1, 3) := by decide +kernel
theorem dX11_stuff_25 : decode cX11_stuff 25 = .ok (.goto (-21), 3) := by decide +kernel
theorem dX11_stuff_28 : decode cX11_stuff 28 = .ok (.iload_n 1, 1) := by decide +kernel
theorem dX11_stuff_29 : decode cX11_stuff 29 = .ok (.ireturn, 1) := by decide +kernel
theorem dX11_minutesGo_0 : decode cX11_minutesGo 0 = .ok (.iconst 0, 1) := by decide +kernel
theorem dX11_minutesGo_1 : decode cX11_minutesGo 1 = .ok (.istore_n 2, 1) := by decide +kernel
theorem dX11_minutesGo_2 : decode cX11_minutesGo 2 = .ok (.iload_n 2, 1) := by decide +kernel
theorem dX11_minutesGo_3 : decode cX11_minutesGo 3 = .ok (.iload_n 1, 1) := by decide +kernel
theorem dX11_minutesGo_4 : decode cX11_minutesGo 4 = .ok (.if_icmp .ge 13, 3) := by decide +kernel
theorem dX11_minutesGo_7 : decode cX11_minutesGo 7 = .ok (.aload_n 0, 1) := by decide +kernel
theorem dX11_minutesGo_8 : decode cX11_minutesGo 8 = .ok (.invokevirtual 234, 3) := by decide +kernel
theorem dX11_minutesGo_11 : decode cX11_minutesGo 11 = .ok (.iinc 2 1, 3) := by decide +kernel
theorem dX11_minutesGo_14 : decode cX11_minutesGo 14 = .ok (.goto (-12), 3) := by decide +kernel
theorem dX11_minutesGo_17 : decode cX11_minutesGo 17 = .ok (.aload_n 0, 1) := by decide +kernel
theorem dX11_minutesGo_18 : decode cX11_minutesGo 18 = .ok (.invokevirtual 237, 3) := by decide +kernel
theorem dX11_minutesGo_21 : decode cX11_minutesGo 21 = .ok (.ireturn, 1) := by decide +kernel
theorem dX11_minutes_0 : decode cX11_minutes 0 = .ok (.iload_n 1, 1) := by decide +kernel
theorem dX11_minutes_1 : decode cX11_minutes 1 = .ok (.iconst 1, 1) := by decide +kernel
theorem dX11_minutes_2 : decode cX11_minutes 2 = .ok (.bipush 60, 2) := by decide +kernel
theorem dX11_minutes_4 : decode cX11_minutes 4 = .ok (.invokestatic 77, 3) := by decide +kernel
theorem dX11_minutes_7 : decode cX11_minutes 7 = .ok (.ifCond .ne 10, 3) := by decide +kernel
theorem dX11_minutes_10 : decode cX11_minutes 10 = .ok (.aload_n 0, 1) := by decide +kernel
theorem dX11_minutes_11 : decode cX11_minutes 11 = .ok (.ldc 81, 2) := by decide +kernel
theorem dX11_minutes_13 : decode cX11_minutes 13 = .ok (.invokevirtual 82, 3) := by decide +kernel
theorem dX11_minutes_16 : decode cX11_minutes 16 = .ok (.ireturn, 1) := by decide +kernel
theorem dX11_minutes_17 : decode cX11_minutes 17 = .ok (.aload_n 0, 1) := by decide +kernel
theorem dX11_minutes_18 : decode cX11_minutes 18 = .ok (.getfield 9, 3) := by decide +kernel
theorem dX11_minutes_21 : decode cX11_minutes 21 = .ok (.iconst 0, 1) := by decide +kernel
theorem dX11_minutes_22 : decode cX11_minutes 22 = .ok (.iaload, 1) := by decide +kernel
theorem dX11_minutes_23 : decode cX11_minutes 23 = .ok (.iload_n 1, 1) := by decide +kernel
theorem dX11_minutes_24 : decode cX11_minutes 24 = .ok (.iadd, 1) := by decide +kernel
theorem dX11_minutes_25 : decode cX11_minutes 25 = .ok (.sipush 9999, 3) := by decide +kernel
theorem dX11_minutes_28 : decode cX11_minutes 28 = .ok (.if_icmp .le 12, 3) := by decide +kernel
theorem dX11_minutes_31 : decode cX11_minutes 31 = .ok (.aload_n 0, 1) := by decide +kernel
theorem dX11_minutes_32 : decode cX11_minutes 32 = .ok (.ldc 240, 2) := by decide +kernel
theorem dX11_minutes_34 : decode cX11_minutes 34 = .ok (.invokevirtual 82, 3) := by decide +kernel
theorem dX11_minutes_37 : decode cX11_minutes 37 = .ok (.goto 8, 3) := by decide +kernel
theorem dX11_minutes_40 : decode cX11_minutes 40 = .ok (.aload_n 0, 1) := by decide +kernel
theorem dX11_minutes_41 : decode cX11_minutes 41 = .ok (.iload_n 1, 1) := by decide +kernel
theorem dX11_minutes_42 : decode cX11_minutes 42 = .ok (.invokevirtual 241, 3) := by decide +kernel
theorem dX11_minutes_45 : decode cX11_minutes 45 = .ok (.ireturn, 1) := by decide +kernel
theorem dX11_drawn_0 : decode cX11_drawn 0 = .ok (.aload_n 0, 1) := by decide +kernel
theorem dX11_drawn_1 : decode cX11_drawn 1 = .ok (.getfield 9, 3) := by decide +kernel
theorem dX11_drawn_4 : decode cX11_drawn 4 = .ok (.iconst 3, 1) := by decide +kernel
theorem dX11_drawn_5 : decode cX11_drawn 5 = .ok (.aload_n 0, 1) := by decide +kernel
theorem dX11_drawn_6 : decode cX11_drawn 6 = .ok (.getfield 9, 3) := by decide +kernel
theorem dX11_drawn_9 : decode cX11_drawn 9 = .ok (.iconst 3, 1) := by decide +kernel
theorem dX11_drawn_10 : decode cX11_drawn 10 = .ok (.iaload, 1) := by decide +kernel
theorem dX11_drawn_11 : decode cX11_drawn 11 = .ok (.ldc 244, 2) := by decide +kernel
theorem dX11_drawn_13 : decode cX11_drawn 13 = .ok (.imul, 1) := by decide +kernel
theorem dX11_drawn_14 : decode cX11_drawn 14 = .ok (.sipush 12345, 3) := by decide +kernel
theorem dX11_drawn_17 : decode cX11_drawn 17 = .ok (.iadd, 1) := by decide +kernel
theorem dX11_drawn_18 : decode cX11_drawn 18 = .ok (.iastore, 1) := by decide +kernel
theorem dX11_drawn_19 : decode cX11_drawn 19 = .ok (.aload_n 0, 1) := by decide +kernel
theorem dX11_drawn_20 : decode cX11_drawn 20 = .ok (.getfield 9, 3) := by decide +kernel
theorem dX11_drawn_23 : decode cX11_drawn 23 = .ok (.iconst 3, 1) := by decide +kernel
theorem dX11_drawn_24 : decode cX11_drawn 24 = .ok (.iaload, 1) := by decide +kernel
theorem dX11_drawn_25 : decode cX11_drawn 25 = .ok (.bipush 8, 2) := by decide +kernel
theorem dX11_drawn_27 : decode cX11_drawn 27 = .ok (.iushr, 1) := by decide +kernel
theorem dX11_drawn_28 : decode cX11_drawn 28 = .ok (.ireturn, 1) := by decide +kernel
theorem dX11_loose_0 : decode cX11_loose 0 = .ok (.iload_n 1, 1) := by decide +kernel
theorem dX11_loose_1 : decode cX11_loose 1 = .ok (.iconst 1, 1) := by decide +kernel
theorem dX11_loose_2 : decode cX11_loose 2 = .ok (.bipush 40, 2) := by decide +kernel
theorem dX11_loose_4 : decode cX11_loose 4 = .ok (.invokestatic 77, 3) := by decide +kernel
theorem dX11_loose_7 : decode cX11_loose 7 = .ok (.ifCond .ne 10, 3) := by decide +kernel
theorem dX11_loose_10 : decode cX11_loose 10 = .ok (.aload_n 0, 1) := by decide +kernel
theorem dX11_loose_11 : decode cX11_loose 11 = .ok (.ldc 81, 2) := by decide +kernel
theorem dX11_loose_13 : decode cX11_loose 13 = .ok (.invokevirtual 82, 3) := by decide +kernel
theorem dX11_loose_16 : decode cX11_loose 16 = .ok (.ireturn, 1) := by decide +kernel
theorem dX11_loose_17 : decode cX11_loose 17 = .ok (.aload_n 0, 1) := by decide +kernel
theorem dX11_loose_18 : decode cX11_loose 18 = .ok (.getfield 9, 3) := by decide +kernel
theorem dX11_loose_21 : decode cX11_loose 21 = .ok (.iconst 0, 1) := by decide +kernel
theorem dX11_loose_22 : decode cX11_loose 22 = .ok (.iaload, 1) := by decide +kernel
theorem dX11_loose_23 : decode cX11_loose 23 = .ok (.iload_n 1, 1) := by decide +kernel
theorem dX11_loose_24 : decode cX11_loose 24 = .ok (.iadd, 1) := by decide +kernel
theorem dX11_loose_25 : decode cX11_loose 25 = .ok (.sipush 9999, 3) := by decide +kernel
theorem dX11_loose_28 : decode cX11_loose 28 = .ok (.if_icmp .le 10, 3) := by decide +kernel
theorem dX11_loose_31 : decode cX11_loose 31 = .ok (.aload_n 0, 1) := by decide +kernel
theorem dX11_loose_32 : decode cX11_loose 32 = .ok (.ldc 240, 2) := by decide +kernel
theorem dX11_loose_34 : decode cX11_loose 34 = .ok (.invokevirtual 82, 3) := by decide +kernel
theorem dX11_loose_37 : decode cX11_loose 37 = .ok (.ireturn, 1) := by decide +kernel
theorem dX11_loose_38 : decode cX11_loose 38 = .ok (.iconst 0, 1) := by decide +kernel
theorem dX11_loose_39 : decode cX11_loose 39 = .ok (.istore_n 2, 1) := by decide +kernel
theorem dX11_loose_40 : decode cX11_loose 40 = .ok (.iload_n 2, 1) := by decide +kernel
theorem dX11_loose_41 : decode cX11_loose 41 = .ok (.iload_n 1, 1) := by decide +kernel
theorem dX11_loose_42 : decode cX11_loose 42 = .ok (.if_icmp .ge 58, 3) := by decide +kernel
theorem dX11_loose_45 : decode cX11_loose 45 = .ok (.aload_n 0, 1) := by decide +kernel
theorem dX11_loose_46 : decode cX11_loose 46 = .ok (.invokevirtual 245, 3) := by decide +kernel
theorem dX11_loose_49 : decode cX11_loose 49 = .ok (.iconst 5, 1) := by decide +kernel
theorem dX11_loose_50 : decode cX11_loose 50 = .ok (.irem, 1) := by decide +kernel
theorem dX11_loose_51 : decode cX11_loose 51 = .ok (.istore_n 3, 1) := by decide +kernel
theorem dX11_loose_52 : decode cX11_loose 52 = .ok (.aload_n 0, 1) := by decide +kernel
theorem dX11_loose_53 : decode cX11_loose 53 = .ok (.getfield 9, 3) := by decide +kernel
theorem dX11_loose_56 : decode cX11_loose 56 = .ok (.bipush 6, 2) := by decide +kernel
theorem dX11_loose_58 : decode cX11_loose 58 = .ok (.aload_n 0, 1) := by decide +kernel
theorem dX11_loose_59 : decode cX11_loose 59 = .ok (.getfield 9, 3) := by decide +kernel
theorem dX11_loose_62 : decode cX11_loose 62 = .ok (.iconst 0, 1) := by decide +kernel
theorem dX11_loose_63 : decode cX11_loose 63 = .ok (.iaload, 1) := by decide +kernel
theorem dX11_loose_64 : decode cX11_loose 64 = .ok (.bipush 6, 2) := by decide +kernel
theorem dX11_loose_66 : decode cX11_loose 66 = .ok (.irem, 1) := by decide +kernel
theorem dX11_loose_67 : decode cX11_loose 67 = .ok (.iadd, 1) := by decide +kernel
theorem dX11_loose_68 : decode cX11_loose 68 = .ok (.iload_n 3, 1) := by decide +kernel
theorem dX11_loose_69 : decode cX11_loose 69 = .ok (.iastore, 1) := by decide +kernel
theorem dX11_loose_70 : decode cX11_loose 70 = .ok (.aload_n 0, 1) := by decide +kernel
theorem dX11_loose_71 : decode cX11_loose 71 = .ok (.invokevirtual 245, 3) := by decide +kernel
theorem dX11_loose_74 : decode cX11_loose 74 = .ok (.bipush 16, 2) := by decide +kernel
theorem dX11_loose_76 : decode cX11_loose 76 = .ok (.irem, 1) := by decide +kernel
theorem dX11_loose_77 : decode cX11_loose 77 = .ok (.istore 4, 2) := by decide +kernel
theorem dX11_loose_79 : decode cX11_loose 79 = .ok (.aload_n 0, 1) := by decide +kernel
theorem dX11_loose_80 : decode cX11_loose 80 = .ok (.getfield 9, 3) := by decide +kernel
theorem dX11_loose_83 : decode cX11_loose 83 = .ok (.bipush 34, 2) := by decide +kernel
theorem dX11_loose_85 : decode cX11_loose 85 = .ok (.iload 4, 2) := by decide +kernel
theorem dX11_loose_87 : decode cX11_loose 87 = .ok (.iadd, 1) := by decide +kernel
theorem dX11_loose_88 : decode cX11_loose 88 = .ok (.iconst 0, 1) := by decide +kernel
theorem dX11_loose_89 : decode cX11_loose 89 = .ok (.iastore, 1) := by decide +kernel
theorem dX11_loose_90 : decode cX11_loose 90 = .ok (.aload_n 0, 1) := by decide +kernel
theorem dX11_loose_91 : decode cX11_loose 91 = .ok (.invokevirtual 234, 3) := by decide +kernel
theorem dX11_loose_94 : decode cX11_loose 94 = .ok (.iinc 2 1, 3) := by decide +kernel
theorem dX11_loose_97 : decode cX11_loose 97 = .ok (.goto (-57), 3) := by decide +kernel
theorem dX11_loose_100 : decode cX11_loose 100 = .ok (.aload_n 0, 1) := by decide +kernel
theorem dX11_loose_101 : decode cX11_loose 101 = .ok (.invokevirtual 237, 3) := by decide +kernel
theorem dX11_loose_104 : decode cX11_loose 104 = .ok (.ireturn, 1) := by decide +kernel
theorem dX11_isBehind_0 : decode cX11_isBehind 0 = .ok (.iload_n 0, 1) := by decide +kernel
theorem dX11_isBehind_1 : decode cX11_isBehind 1 = .ok (.iconst 0, 1) := by decide +kernel
theorem dX11_isBehind_2 : decode cX11_isBehind 2 = .ok (.bipush 60, 2) := by decide +kernel
theorem dX11_isBehind_4 : decode cX11_isBehind 4 = .ok (.invokestatic 77, 3) := by decide +kernel
theorem dX11_isBehind_7 : decode cX11_isBehind 7 = .ok (.ireturn, 1) := by decide +kernel
theorem dX11_hadBehind_0 : decode cX11_hadBehind 0 = .ok (.aload_n 0, 1) := by decide +kernel
theorem dX11_hadBehind_1 : decode cX11_hadBehind 1 = .ok (.getfield 9, 3) := by decide +kernel
theorem dX11_hadBehind_4 : decode cX11_hadBehind 4 = .ok (.aload_n 0, 1) := by decide +kernel
theorem dX11_hadBehind_5 : decode cX11_hadBehind 5 = .ok (.getfield 16, 3) := by decide +kernel
theorem dX11_hadBehind_8 : decode cX11_hadBehind 8 = .ok (.invokestatic 73, 3) := by decide +kernel
theorem dX11_hadBehind_11 : decode cX11_hadBehind 11 = .ok (.aload_n 0, 1) := by decide +kernel
theorem dX11_hadBehind_12 : decode cX11_hadBehind 12 = .ok (.iload_n 1, 1) := by decide +kernel
theorem dX11_hadBehind_13 : decode cX11_hadBehind 13 = .ok (.invokevirtual 241, 3) := by decide +kernel
theorem dX11_hadBehind_16 : decode cX11_hadBehind 16 = .ok (.istore_n 2, 1) := by decide +kernel
theorem dX11_hadBehind_17 : decode cX11_hadBehind 17 = .ok (.aload_n 0, 1) := by decide +kernel
theorem dX11_hadBehind_18 : decode cX11_hadBehind 18 = .ok (.iload_n 2, 1) := by decide +kernel
theorem dX11_hadBehind_19 : decode cX11_hadBehind 19 = .ok (.invokevirtual 248, 3) := by decide +kernel
theorem dX11_hadBehind_22 : decode cX11_hadBehind 22 = .ok (.ireturn, 1) := by decide +kernel
theorem dX11_then_0 : decode cX11_then 0 = .ok (.iload_n 1, 1) := by decide +kernel
theorem dX11_then_1 : decode cX11_then 1 = .ok (.invokestatic 251, 3) := by decide +kernel
theorem dX11_then_4 : decode cX11_then 4 = .ok (.ifCond .eq 12, 3) := by decide +kernel
theorem dX11_then_7 : decode cX11_then 7 = .ok (.iload_n 2, 1) := by decide +kernel
theorem dX11_then_8 : decode cX11_then 8 = .ok (.iconst 0, 1) := by decide +kernel
theorem dX11_then_9 : decode cX11_then 9 = .ok (.iconst 1, 1) := by decide +kernel
theorem dX11_then_10 : decode cX11_then 10 = .ok (.invokestatic 77, 3) := by decide +kernel
theorem dX11_then_13 : decode cX11_then 13 = .ok (.ifCond .ne 10, 3) := by decide +kernel
theorem dX11_then_16 : decode cX11_then 16 = .ok (.aload_n 0, 1) := by decide +kernel
theorem dX11_then_17 : decode cX11_then 17 = .ok (.ldc 81, 2) := by decide +kernel
theorem dX11_then_19 : decode cX11_then 19 = .ok (.invokevirtual 82, 3) := by decide +kernel
theorem dX11_then_22 : decode cX11_then 22 = .ok (.ireturn, 1) := by decide +kernel
theorem dX11_then_23 : decode cX11_then 23 = .ok (.aload_n 0, 1) := by decide +kernel
theorem dX11_then_24 : decode cX11_then 24 = .ok (.getfield 9, 3) := by decide +kernel
theorem dX11_then_27 : decode cX11_then 27 = .ok (.aload_n 0, 1) := by decide +kernel
theorem dX11_then_28 : decode cX11_then 28 = .ok (.getfield 16, 3) := by decide +kernel
theorem dX11_then_31 : decode cX11_then 31 = .ok (.invokestatic 73, 3) := by decide +kernel
theorem dX11_then_34 : decode cX11_then 34 = .ok (.aload_n 0, 1) := by decide +kernel
theorem dX11_then_35 : decode cX11_then 35 = .ok (.iload_n 1, 1) := by decide +kernel
theorem dX11_then_36 : decode cX11_then 36 = .ok (.invokevirtual 241, 3) := by decide +kernel
theorem dX11_then_39 : decode cX11_then 39 = .ok (.istore_n 3, 1) := by decide +kernel
theorem dX11_then_40 : decode cX11_then 40 = .ok (.aload_n 0, 1) := by decide +kernel
theorem dX11_then_41 : decode cX11_then 41 = .ok (.iload_n 2, 1) := by decide +kernel
theorem dX11_then_42 : decode cX11_then 42 = .ok (.ifCond .ne 7, 3) := by decide +kernel
theorem dX11_then_45 : decode cX11_then 45 = .ok (.iload_n 3, 1) := by decide +kernel
theorem dX11_then_46 : decode cX11_then 46 = .ok (.goto 7, 3) := by decide +kernel
theorem dX11_then_49 : decode cX11_then 49 = .ok (.aload_n 0, 1) := by decide +kernel
theorem dX11_then_50 : decode cX11_then 50 = .ok (.invokevirtual 254, 3) := by decide +kernel
theorem dX11_then_53 : decode cX11_then 53 = .ok (.invokevirtual 248, 3) := by decide +kernel
theorem dX11_then_56 : decode cX11_then 56 = .ok (.ireturn, 1) := by decide +kernel
theorem dX11_on_0 : decode cX11_on 0 = .ok (.aload_n 0, 1) := by decide +kernel
theorem dX11_on_1 : decode cX11_on 1 = .ok (.iload_n 1, 1) := by decide +kernel
theorem dX11_on_2 : decode cX11_on 2 = .ok (.invokevirtual 205, 3) := by decide +kernel
theorem dX11_on_5 : decode cX11_on 5 = .ok (.ifCond .eq 19, 3) := by decide +kernel
theorem dX11_on_8 : decode cX11_on 8 = .ok (.iload_n 2, 1) := by decide +kernel
theorem dX11_on_9 : decode cX11_on 9 = .ok (.invokestatic 251, 3) := by decide +kernel
theorem dX11_on_12 : decode cX11_on 12 = .ok (.ifCond .eq 12, 3) := by decide +kernel
theorem dX11_on_15 : decode cX11_on 15 = .ok (.iload_n 3, 1) := by decide +kernel
theorem dX11_on_16 : decode cX11_on 16 = .ok (.iconst 0, 1) := by decide +kernel
theorem dX11_on_17 : decode cX11_on 17 = .ok (.iconst 1, 1) := by decide +kernel
theorem dX11_on_18 : decode cX11_on 18 = .ok (.invokestatic 77, 3) := by decide +kernel
theorem dX11_on_21 : decode cX11_on 21 = .ok (.ifCond .ne 10, 3) := by decide +kernel
theorem dX11_on_24 : decode cX11_on 24 = .ok (.aload_n 0, 1) := by decide +kernel
theorem dX11_on_25 : decode cX11_on 25 = .ok (.ldc 81, 2) := by decide +kernel
theorem dX11_on_27 : decode cX11_on 27 = .ok (.invokevirtual 82, 3) := by decide +kernel
theorem dX11_on_30 : decode cX11_on 30 = .ok (.ireturn, 1) := by decide +kernel
theorem dX11_on_31 : decode cX11_on 31 = .ok (.aload_n 0, 1) := by decide +kernel
theorem dX11_on_32 : decode cX11_on 32 = .ok (.getfield 9, 3) := by decide +kernel
theorem dX11_on_35 : decode cX11_on 35 = .ok (.aload_n 0, 1) := by decide +kernel
theorem dX11_on_36 : decode cX11_on 36 = .ok (.getfield 16, 3) := by decide +kernel
theorem dX11_on_39 : decode cX11_on 39 = .ok (.invokestatic 73, 3) := by decide +kernel
theorem dX11_on_42 : decode cX11_on 42 = .ok (.aload_n 0, 1) := by decide +kernel
theorem dX11_on_43 : decode cX11_on 43 = .ok (.iload_n 2, 1) := by decide +kernel
theorem dX11_on_44 : decode cX11_on 44 = .ok (.invokevirtual 241, 3) := by decide +kernel
theorem dX11_on_47 : decode cX11_on 47 = .ok (.istore 4, 2) := by decide +kernel
theorem dX11_on_49 : decode cX11_on 49 = .ok (.aload_n 0, 1) := by decide +kernel
theorem dX11_on_50 : decode cX11_on 50 = .ok (.iload 4, 2) := by decide +kernel
theorem dX11_on_52 : decode cX11_on 52 = .ok (.ifCond .ge 8, 3) := by decide +kernel
theorem dX11_on_55 : decode cX11_on 55 = .ok (.iload 4, 2) := by decide +kernel
theorem dX11_on_57 : decode cX11_on 57 = .ok (.goto 11, 3) := by decide +kernel
theorem dX11_on_60 : decode cX11_on 60 = .ok (.aload_n 0, 1) := by decide +kernel
theorem dX11_on_61 : decode cX11_on 61 = .ok (.iload_n 1, 1) := by decide +kernel
theorem dX11_on_62 : decode cX11_on 62 = .ok (.iconst 2, 1) := by decide +kernel
theorem dX11_on_63 : decode cX11_on 63 = .ok (.iload_n 3, 1) := by decide +kernel
theorem dX11_on_64 : decode cX11_on 64 = .ok (.iadd, 1) := by decide +kernel
theorem dX11_on_65 : decode cX11_on 65 = .ok (.invokevirtual 171, 3) := by decide +kernel
theorem dX11_on_68 : decode cX11_on 68 = .ok (.invokevirtual 248, 3) := by decide +kernel
theorem dX11_on_71 : decode cX11_on 71 = .ok (.ireturn, 1) := by decide +kernel
theorem dX11_full_0 : decode cX11_full 0 = .ok (.aload_n 0, 1) := by decide +kernel
theorem dX11_full_1 : decode cX11_full 1 = .ok (.iload_n 1, 1) := by decide +kernel
theorem dX11_full_2 : decode cX11_full 2 = .ok (.invokevirtual 205, 3) := by decide +kernel
theorem dX11_full_5 : decode cX11_full 5 = .ok (.ifCond .eq 10, 3) := by decide +kernel
theorem dX11_full_8 : decode cX11_full 8 = .ok (.iload_n 2, 1) := by decide +kernel
theorem dX11_full_9 : decode cX11_full 9 = .ok (.invokestatic 162, 3) := by decide +kernel
theorem dX11_full_12 : decode cX11_full 12 = .ok (.ifCond .ne 10, 3) := by decide +kernel
theorem dX11_full_15 : decode cX11_full 15 = .ok (.aload_n 0, 1) := by decide +kernel
theorem dX11_full_16 : decode cX11_full 16 = .ok (.ldc 81, 2) := by decide +kernel
theorem dX11_full_18 : decode cX11_full 18 = .ok (.invokevirtual 82, 3) := by decide +kernel
theorem dX11_full_21 : decode cX11_full 21 = .ok (.ireturn, 1) := by decide +kernel
theorem dX11_full_22 : decode cX11_full 22 = .ok (.aload_n 0, 1) := by decide +kernel
theorem dX11_full_23 : decode cX11_full 23 = .ok (.getfield 9, 3) := by decide +kernel
theorem dX11_full_26 : decode cX11_full 26 = .ok (.aload_n 0, 1) := by decide +kernel
theorem dX11_full_27 : decode cX11_full 27 = .ok (.getfield 16, 3) := by decide +kernel
theorem dX11_full_30 : decode cX11_full 30 = .ok (.invokestatic 73, 3) := by decide +kernel
theorem dX11_full_33 : decode cX11_full 33 = .ok (.iconst 0, 1) := by decide +kernel
theorem dX11_full_34 : decode cX11_full 34 = .ok (.istore_n 3, 1) := by decide +kernel
theorem dX11_full_35 : decode cX11_full 35 = .ok (.iload_n 3, 1) := by decide +kernel
theorem dX11_full_36 : decode cX11_full 36 = .ok (.bipush 60, 2) := by decide +kernel
theorem dX11_full_38 : decode cX11_full 38 = .ok (.if_icmp .ge 23, 3) := by decide +kernel
theorem dX11_full_41 : decode cX11_full 41 = .ok (.aload_n 0, 1) := by decide +kernel
theorem dX11_full_42 : decode cX11_full 42 = .ok (.iload_n 1, 1) := by decide +kernel
theorem dX11_full_43 : decode cX11_full 43 = .ok (.iconst 3, 1) := by decide +kernel
theorem dX11_full_44 : decode cX11_full 44 = .ok (.invokevirtual 171, 3) := by decide +kernel
theorem dX11_full_47 : decode cX11_full 47 = .ok (.iload_n 2, 1) := by decide +kernel
theorem dX11_full_48 : decode cX11_full 48 = .ok (.if_icmp .ge 13, 3) := by decide +kernel
theorem dX11_full_51 : decode cX11_full 51 = .ok (.aload_n 0, 1) := by decide +kernel
theorem dX11_full_52 : decode cX11_full 52 = .ok (.invokevirtual 234, 3) := by decide +kernel
theorem dX11_full_55 : decode cX11_full 55 = .ok (.iinc 3 1, 3) := by decide +kernel
theorem dX11_full_58 : decode cX11_full 58 = .ok (.goto (-23), 3) := by decide +kernel
theorem dX11_full_61 : decode cX11_full 61 = .ok (.aload_n 0, 1) := by decide +kernel
theorem dX11_full_62 : decode cX11_full 62 = .ok (.iload_n 1, 1) := by decide +kernel
theorem dX11_full_63 : decode cX11_full 63 = .ok (.iconst 3, 1) := by decide +kernel
theorem dX11_full_64 : decode cX11_full 64 = .ok (.invokevirtual 171, 3) := by decide +kernel
theorem dX11_full_67 : decode cX11_full 67 = .ok (.iload_n 2, 1) := by decide +kernel
theorem dX11_full_68 : decode cX11_full 68 = .ok (.if_icmp .lt 7, 3) := by decide +kernel
theorem dX11_full_71 : decode cX11_full 71 = .ok (.iconst 1, 1) := by decide +kernel
theorem dX11_full_72 : decode cX11_full 72 = .ok (.goto 4, 3) := by decide +kernel
theorem dX11_full_75 : decode cX11_full 75 = .ok (.iconst 0, 1) := by decide +kernel
theorem dX11_full_76 : decode cX11_full 76 = .ok (.istore 4, 2) := by decide +kernel
theorem dX11_full_78 : decode cX11_full 78 = .ok (.aload_n 0, 1) := by decide +kernel
theorem dX11_full_79 : decode cX11_full 79 = .ok (.getfield 16, 3) := by decide +kernel
theorem dX11_full_82 : decode cX11_full 82 = .ok (.aload_n 0, 1) := by decide +kernel
theorem dX11_full_83 : decode cX11_full 83 = .ok (.getfield 9, 3) := by decide +kernel
theorem dX11_full_86 : decode cX11_full 86 = .ok (.invokestatic 73, 3) := by decide +kernel
theorem dX11_full_89 : decode cX11_full 89 = .ok (.iload 4, 2) := by decide +kernel
theorem dX11_full_91 : decode cX11_full 91 = .ok (.ifCond .eq 7, 3) := by decide +kernel
theorem dX11_full_94 : decode cX11_full 94 = .ok (.iload_n 3, 1) := by decide +kernel
theorem dX11_full_95 : decode cX11_full 95 = .ok (.goto 10, 3) := by decide +kernel
theorem dX11_full_98 : decode cX11_full 98 = .ok (.aload_n 0, 1) := by decide +kernel
theorem dX11_full_99 : decode cX11_full 99 = .ok (.ldc_w 257, 3) := by decide +kernel
theorem dX11_full_102 : decode cX11_full 102 = .ok (.invokevirtual 82, 3) := by decide +kernel
theorem dX11_full_105 : decode cX11_full 105 = .ok (.ireturn, 1) := by decide +kernel
theorem dX11_mostBy_0 : decode cX11_mostBy 0 = .ok (.aload_n 0, 1) := by decide +kernel
theorem dX11_mostBy_1 : decode cX11_mostBy 1 = .ok (.getfield 9, 3) := by decide +kernel
theorem dX11_mostBy_4 : decode cX11_mostBy 4 = .ok (.iload_n 1, 1) := by decide +kernel
theorem dX11_mostBy_5 : decode cX11_mostBy 5 = .ok (.iaload, 1) := by decide +kernel
theorem dX11_mostBy_6 : decode cX11_mostBy 6 = .ok (.istore 4, 2) := by decide +kernel
theorem dX11_mostBy_8 : decode cX11_mostBy 8 = .ok (.iconst 0, 1) := by decide +kernel
theorem dX11_mostBy_9 : decode cX11_mostBy 9 = .ok (.istore 5, 2) := by decide +kernel
theorem dX11_mostBy_11 : decode cX11_mostBy 11 = .ok (.iconst (-1), 1) := by decide +kernel
theorem dX11_mostBy_12 : decode cX11_mostBy 12 = .ok (.istore 6, 2) := by decide +kernel
theorem dX11_mostBy_14 : decode cX11_mostBy 14 = .ok (.iconst 0, 1) := by decide +kernel
theorem dX11_mostBy_15 : decode cX11_mostBy 15 = .ok (.istore 7, 2) := by decide +kernel
theorem dX11_mostBy_17 : decode cX11_mostBy 17 = .ok (.iload 7, 2) := by decide +kernel
theorem dX11_mostBy_19 : decode cX11_mostBy 19 = .ok (.iload_n 2, 1) := by decide +kernel
theorem dX11_mostBy_20 : decode cX11_mostBy 20 = .ok (.if_icmp .ge 49, 3) := by decide +kernel
theorem dX11_mostBy_23 : decode cX11_mostBy 23 = .ok (.aload_n 0, 1) := by decide +kernel
theorem dX11_mostBy_24 : decode cX11_mostBy 24 = .ok (.getfield 9, 3) := by decide +kernel
theorem dX11_mostBy_27 : decode cX11_mostBy 27 = .ok (.iload_n 1, 1) := by decide +kernel
theorem dX11_mostBy_28 : decode cX11_mostBy 28 = .ok (.iload 7, 2) := by decide +kernel
theorem dX11_mostBy_30 : decode cX11_mostBy 30 = .ok (.iastore, 1) := by decide +kernel
theorem dX11_mostBy_31 : decode cX11_mostBy 31 = .ok (.aload_n 0, 1) := by decide +kernel
theorem dX11_mostBy_32 : decode cX11_mostBy 32 = .ok (.iload_n 3, 1) := by decide +kernel
theorem dX11_mostBy_33 : decode cX11_mostBy 33 = .ok (.invokevirtual 258, 3) := by decide +kernel
theorem dX11_mostBy_36 : decode cX11_mostBy 36 = .ok (.istore 8, 2) := by decide +kernel
theorem dX11_mostBy_38 : decode cX11_mostBy 38 = .ok (.iload 8, 2) := by decide +kernel
theorem dX11_mostBy_40 : decode cX11_mostBy 40 = .ok (.iload 6, 2) := by decide +kernel
theorem dX11_mostBy_42 : decode cX11_mostBy 42 = .ok (.if_icmp .le 8, 3) := by decide +kernel
theorem dX11_mostBy_45 : decode cX11_mostBy 45 = .ok (.iload 7, 2) := by decide +kernel
theorem dX11_mostBy_47 : decode cX11_mostBy 47 = .ok (.goto 5, 3) := by decide +kernel
theorem dX11_mostBy_50 : decode cX11_mostBy 50 = .ok (.iload 5, 2) := by decide +kernel
theorem dX11_mostBy_52 : decode cX11_mostBy 52 = .ok (.istore 5, 2) := by decide +kernel
theorem dX11_mostBy_54 : decode cX11_mostBy 54 = .ok (.iload 6, 2) := by decide +kernel
theorem dX11_mostBy_56 : decode cX11_mostBy 56 = .ok (.iload 8, 2) := by decide +kernel
theorem dX11_mostBy_58 : decode cX11_mostBy 58 = .ok (.invokestatic 70, 3) := by decide +kernel
theorem dX11_mostBy_61 : decode cX11_mostBy 61 = .ok (.istore 6, 2) := by decide +kernel
theorem dX11_mostBy_63 : decode cX11_mostBy 63 = .ok (.iinc 7 1, 3) := by decide +kernel
theorem dX11_mostBy_66 : decode cX11_mostBy 66 = .ok (.goto (-49), 3) := by decide +kernel
theorem dX11_mostBy_69 : decode cX11_mostBy 69 = .ok (.aload_n 0, 1) := by decide +kernel
theorem dX11_mostBy_70 : decode cX11_mostBy 70 = .ok (.getfield 9, 3) := by decide +kernel
theorem dX11_mostBy_73 : decode cX11_mostBy 73 = .ok (.iload_n 1, 1) := by decide +kernel
theorem dX11_mostBy_74 : decode cX11_mostBy 74 = .ok (.iload 4, 2) := by decide +kernel
theorem dX11_mostBy_76 : decode cX11_mostBy 76 = .ok (.iastore, 1) := by decide +kernel
theorem dX11_mostBy_77 : decode cX11_mostBy 77 = .ok (.iload 5, 2) := by decide +kernel
theorem dX11_mostBy_79 : decode cX11_mostBy 79 = .ok (.ireturn, 1) := by decide +kernel
theorem dX11_wayFor_0 : decode cX11_wayFor 0 = .ok (.iload_n 1, 1) := by decide +kernel
theorem dX11_wayFor_1 : decode cX11_wayFor 1 = .ok (.invokestatic 180, 3) := by decide +kernel
theorem dX11_wayFor_4 : decode cX11_wayFor 4 = .ok (.ifCond .eq 23, 3) := by decide +kernel
theorem dX11_wayFor_7 : decode cX11_wayFor 7 = .ok (.iload_n 2, 1) := by decide +kernel
theorem dX11_wayFor_8 : decode cX11_wayFor 8 = .ok (.invokestatic 251, 3) := by decide +kernel
theorem dX11_wayFor_11 : decode cX11_wayFor 11 = .ok (.ifCond .eq 16, 3) := by decide +kernel
theorem dX11_wayFor_14 : decode cX11_wayFor 14 = .ok (.aload_n 0, 1) := by decide +kernel
theorem dX11_wayFor_15 : decode cX11_wayFor 15 = .ok (.bipush 6, 2) := by decide +kernel
theorem dX11_wayFor_17 : decode cX11_wayFor 17 = .ok (.iload_n 1, 1) := by decide +kernel
theorem dX11_wayFor_18 : decode cX11_wayFor 18 = .ok (.iadd, 1) := by decide +kernel
theorem dX11_wayFor_19 : decode cX11_wayFor 19 = .ok (.iconst 5, 1) := by decide +kernel
theorem dX11_wayFor_20 : decode cX11_wayFor 20 = .ok (.iload_n 2, 1) := by decide +kernel
theorem dX11_wayFor_21 : decode cX11_wayFor 21 = .ok (.invokevirtual 261, 3) := by decide +kernel
theorem dX11_wayFor_24 : decode cX11_wayFor 24 = .ok (.goto 9, 3) := by decide +kernel
theorem dX11_wayFor_27 : decode cX11_wayFor 27 = .ok (.aload_n 0, 1) := by decide +kernel
theorem dX11_wayFor_28 : decode cX11_wayFor 28 = .ok (.ldc 81, 2) := by decide +kernel
theorem dX11_wayFor_30 : decode cX11_wayFor 30 = .ok (.invokevirtual 82, 3) := by decide +kernel
theorem dX11_wayFor_33 : decode cX11_wayFor 33 = .ok (.ireturn, 1) := by decide +kernel
theorem dX11_cellFor_0 : decode cX11_cellFor 0 = .ok (.aload_n 0, 1) := by decide +kernel
theorem dX11_cellFor_1 : decode cX11_cellFor 1 = .ok (.iload_n 1, 1) := by decide +kernel
theorem dX11_cellFor_2 : decode cX11_cellFor 2 = .ok (.invokevirtual 205, 3) := by decide +kernel
theorem dX11_cellFor_5 : decode cX11_cellFor 5 = .ok (.ifCond .eq 25, 3) := by decide +kernel
theorem dX11_cellFor_8 : decode cX11_cellFor 8 = .ok (.iload_n 2, 1) := by decide +kernel
theorem dX11_cellFor_9 : decode cX11_cellFor 9 = .ok (.invokestatic 251, 3) := by decide +kernel
theorem dX11_cellFor_12 : decode cX11_cellFor 12 = .ok (.ifCond .eq 18, 3) := by decide +kernel
theorem dX11_cellFor_15 : decode cX11_cellFor 15 = .ok (.aload_n 0, 1) := by decide +kernel
theorem dX11_cellFor_16 : decode cX11_cellFor 16 = .ok (.iload_n 1, 1) := by decide +kernel
theorem dX11_cellFor_17 : decode cX11_cellFor 17 = .ok (.iconst 2, 1) := by decide +kernel
theorem dX11_cellFor_18 : decode cX11_cellFor 18 = .ok (.invokestatic 186, 3) := by decide +kernel
theorem dX11_cellFor_21 : decode cX11_cellFor 21 = .ok (.bipush 16, 2) := by decide +kernel
theorem dX11_cellFor_23 : decode cX11_cellFor 23 = .ok (.iload_n 2, 1) := by decide +kernel
theorem dX11_cellFor_24 : decode cX11_cellFor 24 = .ok (.invokevirtual 261, 3) := by decide +kernel
theorem dX11_cellFor_27 : decode cX11_cellFor 27 = .ok (.goto 9, 3) := by decide +kernel
theorem dX11_cellFor_30 : decode cX11_cellFor 30 = .ok (.aload_n 0, 1) := by decide +kernel
theorem dX11_cellFor_31 : decode cX11_cellFor 31 = .ok (.ldc 81, 2) := by decide +kernel
theorem dX11_cellFor_33 : decode cX11_cellFor 33 = .ok (.invokevirtual 82, 3) := by decide +kernel
theorem dX11_cellFor_36 : decode cX11_cellFor 36 = .ok (.ireturn, 1) := by decide +kernel
theorem dX11_kindFor_0 : decode cX11_kindFor 0 = .ok (.aload_n 0, 1) := by decide +kernel
theorem dX11_kindFor_1 : decode cX11_kindFor 1 = .ok (.iload_n 1, 1) := by decide +kernel
theorem dX11_kindFor_2 : decode cX11_kindFor 2 = .ok (.invokevirtual 205, 3) := by decide +kernel
theorem dX11_kindFor_5 : decode cX11_kindFor 5 = .ok (.ifCond .eq 25, 3) := by decide +kernel
theorem dX11_kindFor_8 : decode cX11_kindFor 8 = .ok (.iload_n 2, 1) := by decide +kernel
theorem dX11_kindFor_9 : decode cX11_kindFor 9 = .ok (.invokestatic 251, 3) := by decide +kernel
theorem dX11_kindFor_12 : decode cX11_kindFor 12 = .ok (.ifCond .eq 18, 3) := by decide +kernel
theorem dX11_kindFor_15 : decode cX11_kindFor 15 = .ok (.aload_n 0, 1) := by decide +kernel
theorem dX11_kindFor_16 : decode cX11_kindFor 16 = .ok (.iload_n 1, 1) := by decide +kernel
theorem dX11_kindFor_17 : decode cX11_kindFor 17 = .ok (.iconst 0, 1) := by decide +kernel
theorem dX11_kindFor_18 : decode cX11_kindFor 18 = .ok (.invokestatic 186, 3) := by decide +kernel
theorem dX11_kindFor_21 : decode cX11_kindFor 21 = .ok (.bipush 7, 2) := by decide +kernel
theorem dX11_kindFor_23 : decode cX11_kindFor 23 = .ok (.iload_n 2, 1) := by decide +kernel
theorem dX11_kindFor_24 : decode cX11_kindFor 24 = .ok (.invokevirtual 261, 3) := by decide +kernel
theorem dX11_kindFor_27 : decode cX11_kindFor 27 = .ok (.goto 9, 3) := by decide +kernel
theorem dX11_kindFor_30 : decode cX11_kindFor 30 = .ok (.aload_n 0, 1) := by decide +kernel
theorem dX11_kindFor_31 : decode cX11_kindFor 31 = .ok (.ldc 81, 2) := by decide +kernel
theorem dX11_kindFor_33 : decode cX11_kindFor 33 = .ok (.invokevirtual 82, 3) := by decide +kernel
theorem dX11_kindFor_36 : decode cX11_kindFor 36 = .ok (.ireturn, 1) := by decide +kernel
theorem dX11_hadBy_0 : decode cX11_hadBy 0 = .ok (.aload_n 0, 1) := by decide +kernel
theorem dX11_hadBy_1 : decode cX11_hadBy 1 = .ok (.getfield 9, 3) := by decide +kernel
theorem dX11_hadBy_4 : decode cX11_hadBy 4 = .ok (.aload_n 0, 1) := by decide +kernel
theorem dX11_hadBy_5 : decode cX11_hadBy 5 = .ok (.getfield 16, 3) := by decide +kernel
theorem dX11_hadBy_8 : decode cX11_hadBy 8 = .ok (.invokestatic 73, 3) := by decide +kernel
theorem dX11_hadBy_11 : decode cX11_hadBy 11 = .ok (.aload_n 0, 1) := by decide +kernel
theorem dX11_hadBy_12 : decode cX11_hadBy 12 = .ok (.iload_n 1, 1) := by decide +kernel
theorem dX11_hadBy_13 : decode cX11_hadBy 13 = .ok (.putfield 22, 3) := by decide +kernel
theorem dX11_hadBy_16 : decode cX11_hadBy 16 = .ok (.iload_n 3, 1) := by decide +kernel
theorem dX11_hadBy_17 : decode cX11_hadBy 17 = .ok (.iconst 5, 1) := by decide +kernel
theorem dX11_hadBy_18 : decode cX11_hadBy 18 = .ok (.idiv, 1) := by decide +kernel
theorem dX11_hadBy_19 : decode cX11_hadBy 19 = .ok (.istore 4, 2) := by decide +kernel
theorem dX11_hadBy_21 : decode cX11_hadBy 21 = .ok (.iload 4, 2) := by decide +kernel
theorem dX11_hadBy_23 : decode cX11_hadBy 23 = .ok (.ifCond .le 26, 3) := by decide +kernel
theorem dX11_hadBy_26 : decode cX11_hadBy 26 = .ok (.aload_n 0, 1) := by decide +kernel
theorem dX11_hadBy_27 : decode cX11_hadBy 27 = .ok (.iload_n 2, 1) := by decide +kernel
theorem dX11_hadBy_28 : decode cX11_hadBy 28 = .ok (.iload 4, 2) := by decide +kernel
theorem dX11_hadBy_30 : decode cX11_hadBy 30 = .ok (.idiv, 1) := by decide +kernel
theorem dX11_hadBy_31 : decode cX11_hadBy 31 = .ok (.iconst 5, 1) := by decide +kernel
theorem dX11_hadBy_32 : decode cX11_hadBy 32 = .ok (.irem, 1) := by decide +kernel
theorem dX11_hadBy_33 : decode cX11_hadBy 33 = .ok (.putfield 228, 3) := by decide +kernel
theorem dX11_hadBy_36 : decode cX11_hadBy 36 = .ok (.aload_n 0, 1) := by decide +kernel
theorem dX11_hadBy_37 : decode cX11_hadBy 37 = .ok (.invokevirtual 234, 3) := by decide +kernel
theorem dX11_hadBy_40 : decode cX11_hadBy 40 = .ok (.iload 4, 2) := by decide +kernel
theorem dX11_hadBy_42 : decode cX11_hadBy 42 = .ok (.iconst 5, 1) := by decide +kernel
theorem dX11_hadBy_43 : decode cX11_hadBy 43 = .ok (.idiv, 1) := by decide +kernel
theorem dX11_hadBy_44 : decode cX11_hadBy 44 = .ok (.istore 4, 2) := by decide +kernel
theorem dX11_hadBy_46 : decode cX11_hadBy 46 = .ok (.goto (-25), 3) := by decide +kernel
theorem dX11_hadBy_49 : decode cX11_hadBy 49 = .ok (.aload_n 0, 1) := by decide +kernel
theorem dX11_hadBy_50 : decode cX11_hadBy 50 = .ok (.iconst (-1), 1) := by decide +kernel
theorem dX11_hadBy_51 : decode cX11_hadBy 51 = .ok (.putfield 22, 3) := by decide +kernel
theorem dX11_hadBy_54 : decode cX11_hadBy 54 = .ok (.aload_n 0, 1) := by decide +kernel
theorem dX11_hadBy_55 : decode cX11_hadBy 55 = .ok (.aload_n 0, 1) := by decide +kernel
theorem dX11_hadBy_56 : decode cX11_hadBy 56 = .ok (.invokevirtual 237, 3) := by decide +kernel
theorem dX11_hadBy_59 : decode cX11_hadBy 59 = .ok (.invokevirtual 248, 3) := by decide +kernel
theorem dX11_hadBy_62 : decode cX11_hadBy 62 = .ok (.ireturn, 1) := by decide +kernel
theorem dX11_route_0 : decode cX11_route 0 = .ok (.aload_n 0, 1) := by decide +kernel
theorem dX11_route_1 : decode cX11_route 1 = .ok (.iload_n 1, 1) := by decide +kernel
theorem dX11_route_2 : decode cX11_route 2 = .ok (.invokevirtual 205, 3) := by decide +kernel
theorem dX11_route_5 : decode cX11_route 5 = .ok (.ifCond .eq 21, 3) := by decide +kernel
theorem dX11_route_8 : decode cX11_route 8 = .ok (.iload_n 2, 1) := by decide +kernel
theorem dX11_route_9 : decode cX11_route 9 = .ok (.iconst 0, 1) := by decide +kernel
theorem dX11_route_10 : decode cX11_route 10 = .ok (.iconst 4, 1) := by decide +kernel
theorem dX11_route_11 : decode cX11_route 11 = .ok (.invokestatic 77, 3) := by decide +kernel
theorem dX11_route_14 : decode cX11_route 14 = .ok (.ifCond .eq 12, 3) := by decide +kernel
theorem dX11_route_17 : decode cX11_route 17 = .ok (.iload_n 3, 1) := by decide +kernel
theorem dX11_route_18 : decode cX11_route 18 = .ok (.iconst 0, 1) := by decide +kernel
theorem dX11_route_19 : decode cX11_route 19 = .ok (.iconst 1, 1) := by decide +kernel
theorem dX11_route_20 : decode cX11_route 20 = .ok (.invokestatic 77, 3) := by decide +kernel
theorem dX11_route_23 : decode cX11_route 23 = .ok (.ifCond .ne 10, 3) := by decide +kernel
theorem dX11_route_26 : decode cX11_route 26 = .ok (.aload_n 0, 1) := by decide +kernel
theorem dX11_route_27 : decode cX11_route 27 = .ok (.ldc 81, 2) := by decide +kernel
theorem dX11_route_29 : decode cX11_route 29 = .ok (.invokevirtual 82, 3) := by decide +kernel
theorem dX11_route_32 : decode cX11_route 32 = .ok (.ireturn, 1) := by decide +kernel
theorem dX11_route_33 : decode cX11_route 33 = .ok (.iconst 1, 1) := by decide +kernel
theorem dX11_route_34 : decode cX11_route 34 = .ok (.istore 4, 2) := by decide +kernel
theorem dX11_route_36 : decode cX11_route 36 = .ok (.iconst 0, 1) := by decide +kernel
theorem dX11_route_37 : decode cX11_route 37 = .ok (.istore 5, 2) := by decide +kernel
theorem dX11_route_39 : decode cX11_route 39 = .ok (.iload 5, 2) := by decide +kernel
theorem dX11_route_41 : decode cX11_route 41 = .ok (.iload_n 2, 1) := by decide +kernel
theorem dX11_route_42 : decode cX11_route 42 = .ok (.if_icmp .ge 15, 3) := by decide +kernel
theorem dX11_route_45 : decode cX11_route 45 = .ok (.iload 4, 2) := by decide +kernel
theorem dX11_route_47 : decode cX11_route 47 = .ok (.iconst 5, 1) := by decide +kernel
theorem dX11_route_48 : decode cX11_route 48 = .ok (.imul, 1) := by decide +kernel
theorem dX11_route_49 : decode cX11_route 49 = .ok (.istore 4, 2) := by decide +kernel
theorem dX11_route_51 : decode cX11_route 51 = .ok (.iinc 5 1, 3) := by decide +kernel
theorem dX11_route_54 : decode cX11_route 54 = .ok (.goto (-15), 3) := by decide +kernel
theorem dX11_route_57 : decode cX11_route 57 = .ok (.iconst 0, 1) := by decide +kernel
theorem dX11_route_58 : decode cX11_route 58 = .ok (.istore 5, 2) := by decide +kernel
theorem dX11_route_60 : decode cX11_route 60 = .ok (.iconst (-1), 1) := by decide +kernel
theorem dX11_route_61 : decode cX11_route 61 = .ok (.istore 6, 2) := by decide +kernel
theorem dX11_route_63 : decode cX11_route 63 = .ok (.iconst 0, 1) := by decide +kernel
theorem dX11_route_64 : decode cX11_route 64 = .ok (.istore 7, 2) := by decide +kernel
theorem dX11_route_66 : decode cX11_route 66 = .ok (.iload 7, 2) := by decide +kernel
theorem dX11_route_68 : decode cX11_route 68 = .ok (.iload 4, 2) := by decide +kernel
theorem dX11_route_70 : decode cX11_route 70 = .ok (.if_icmp .ge 45, 3) := by decide +kernel
theorem dX11_route_73 : decode cX11_route 73 = .ok (.aload_n 0, 1) := by decide +kernel
theorem dX11_route_74 : decode cX11_route 74 = .ok (.iload_n 1, 1) := by decide +kernel
theorem dX11_route_75 : decode cX11_route 75 = .ok (.iload 7, 2) := by decide +kernel
theorem dX11_route_77 : decode cX11_route 77 = .ok (.iload 4, 2) := by decide +kernel
theorem dX11_route_79 : decode cX11_route 79 = .ok (.invokevirtual 264, 3) := by decide +kernel
theorem dX11_route_82 : decode cX11_route 82 = .ok (.istore 8, 2) := by decide +kernel
theorem dX11_route_84 : decode cX11_route 84 = .ok (.iload 8, 2) := by decide +kernel
theorem dX11_route_86 : decode cX11_route 86 = .ok (.iload 6, 2) := by decide +kernel
theorem dX11_route_88 : decode cX11_route 88 = .ok (.if_icmp .le 8, 3) := by decide +kernel
theorem dX11_route_91 : decode cX11_route 91 = .ok (.iload 7, 2) := by decide +kernel
theorem dX11_route_93 : decode cX11_route 93 = .ok (.goto 5, 3) := by decide +kernel
theorem dX11_route_96 : decode cX11_route 96 = .ok (.iload 5, 2) := by decide +kernel
theorem dX11_route_98 : decode cX11_route 98 = .ok (.istore 5, 2) := by decide +kernel
theorem dX11_route_100 : decode cX11_route 100 = .ok (.iload 6, 2) := by decide +kernel
theorem dX11_route_102 : decode cX11_route 102 = .ok (.iload 8, 2) := by decide +kernel
theorem dX11_route_104 : decode cX11_route 104 = .ok (.invokestatic 70, 3) := by decide +kernel
theorem dX11_route_107 : decode cX11_route 107 = .ok (.istore 6, 2) := by decide +kernel
theorem dX11_route_109 : decode cX11_route 109 = .ok (.iinc 7 1, 3) := by decide +kernel
theorem dX11_route_112 : decode cX11_route 112 = .ok (.goto (-46), 3) := by decide +kernel
theorem dX11_route_115 : decode cX11_route 115 = .ok (.iconst 1, 1) := by decide +kernel
theorem dX11_route_116 : decode cX11_route 116 = .ok (.istore 7, 2) := by decide +kernel
theorem dX11_route_118 : decode cX11_route 118 = .ok (.iload 4, 2) := by decide +kernel
theorem dX11_route_120 : decode cX11_route 120 = .ok (.iconst 5, 1) := by decide +kernel
theorem dX11_route_121 : decode cX11_route 121 = .ok (.idiv, 1) := by decide +kernel
theorem dX11_route_122 : decode cX11_route 122 = .ok (.istore 8, 2) := by decide +kernel
theorem dX11_route_124 : decode cX11_route 124 = .ok (.iload 8, 2) := by decide +kernel
theorem dX11_route_126 : decode cX11_route 126 = .ok (.ifCond .le 27, 3) := by decide +kernel
theorem dX11_route_129 : decode cX11_route 129 = .ok (.bipush 10, 2) := by decide +kernel
theorem dX11_route_131 : decode cX11_route 131 = .ok (.iload 7, 2) := by decide +kernel
theorem dX11_route_133 : decode cX11_route 133 = .ok (.imul, 1) := by decide +kernel
theorem dX11_route_134 : decode cX11_route 134 = .ok (.iload 5, 2) := by decide +kernel
theorem dX11_route_136 : decode cX11_route 136 = .ok (.iload 8, 2) := by decide +kernel
theorem dX11_route_138 : decode cX11_route 138 = .ok (.idiv, 1) := by decide +kernel
theorem dX11_route_139 : decode cX11_route 139 = .ok (.iconst 5, 1) := by decide +kernel
theorem dX11_route_140 : decode cX11_route 140 = .ok (.irem, 1) := by decide +kernel
theorem dX11_route_141 : decode cX11_route 141 = .ok (.iadd, 1) := by decide +kernel
theorem dX11_route_142 : decode cX11_route 142 = .ok (.istore 7, 2) := by decide +kernel
theorem dX11_route_144 : decode cX11_route 144 = .ok (.iload 8, 2) := by decide +kernel
theorem dX11_route_146 : decode cX11_route 146 = .ok (.iconst 5, 1) := by decide +kernel
theorem dX11_route_147 : decode cX11_route 147 = .ok (.idiv, 1) := by decide +kernel
theorem dX11_route_148 : decode cX11_route 148 = .ok (.istore 8, 2) := by decide +kernel
theorem dX11_route_150 : decode cX11_route 150 = .ok (.goto (-26), 3) := by decide +kernel
theorem dX11_route_153 : decode cX11_route 153 = .ok (.iload_n 3, 1) := by decide +kernel
theorem dX11_route_154 : decode cX11_route 154 = .ok (.ifCond .ne 8, 3) := by decide +kernel
theorem dX11_route_157 : decode cX11_route 157 = .ok (.iload 7, 2) := by decide +kernel
theorem dX11_route_159 : decode cX11_route 159 = .ok (.goto 5, 3) := by decide +kernel
theorem dX11_route_162 : decode cX11_route 162 = .ok (.iload 6, 2) := by decide +kernel
theorem dX11_route_164 : decode cX11_route 164 = .ok (.ireturn, 1) := by decide +kernel
theorem dX11_isHad_0 : decode cX11_isHad 0 = .ok (.iload_n 0, 1) := by decide +kernel
theorem dX11_isHad_1 : decode cX11_isHad 1 = .ok (.iconst 0, 1) := by decide +kernel
theorem dX11_isHad_2 : decode cX11_isHad 2 = .ok (.sipush 792, 3) := by decide +kernel
theorem dX11_isHad_5 : decode cX11_isHad 5 = .ok (.invokestatic 77, 3) := by decide +kernel
theorem dX11_isHad_8 : decode cX11_isHad 8 = .ok (.ireturn, 1) := by decide +kernel
theorem dX11_darkFor_0 : decode cX11_darkFor 0 = .ok (.iload_n 1, 1) := by decide +kernel
theorem dX11_darkFor_1 : decode cX11_darkFor 1 = .ok (.invokestatic 251, 3) := by decide +kernel
theorem dX11_darkFor_4 : decode cX11_darkFor 4 = .ok (.ifCond .eq 10, 3) := by decide +kernel
theorem dX11_darkFor_7 : decode cX11_darkFor 7 = .ok (.iload_n 2, 1) := by decide +kernel
theorem dX11_darkFor_8 : decode cX11_darkFor 8 = .ok (.invokestatic 267, 3) := by decide +kernel
theorem dX11_darkFor_11 : decode cX11_darkFor 11 = .ok (.ifCond .ne 10, 3) := by decide +kernel
theorem dX11_darkFor_14 : decode cX11_darkFor 14 = .ok (.aload_n 0, 1) := by decide +kernel
theorem dX11_darkFor_15 : decode cX11_darkFor 15 = .ok (.ldc 81, 2) := by decide +kernel
theorem dX11_darkFor_17 : decode cX11_darkFor 17 = .ok (.invokevirtual 82, 3) := by decide +kernel
theorem dX11_darkFor_20 : decode cX11_darkFor 20 = .ok (.ireturn, 1) := by decide +kernel
theorem dX11_darkFor_21 : decode cX11_darkFor 21 = .ok (.aload_n 0, 1) := by decide +kernel
theorem dX11_darkFor_22 : decode cX11_darkFor 22 = .ok (.getfield 9, 3) := by decide +kernel
theorem dX11_darkFor_25 : decode cX11_darkFor 25 = .ok (.iconst 2, 1) := by decide +kernel
theorem dX11_darkFor_26 : decode cX11_darkFor 26 = .ok (.iaload, 1) := by decide +kernel
theorem dX11_darkFor_27 : decode cX11_darkFor 27 = .ok (.istore_n 3, 1) := by decide +kernel
theorem dX11_darkFor_28 : decode cX11_darkFor 28 = .ok (.iconst (-1), 1) := by decide +kernel
theorem dX11_darkFor_29 : decode cX11_darkFor 29 = .ok (.istore 4, 2) := by decide +kernel
theorem dX11_darkFor_31 : decode cX11_darkFor 31 = .ok (.bipush 20, 2) := by decide +kernel
theorem dX11_darkFor_33 : decode cX11_darkFor 33 = .ok (.istore 5, 2) := by decide +kernel
theorem dX11_darkFor_35 : decode cX11_darkFor 35 = .ok (.iload 5, 2) := by decide +kernel
theorem dX11_darkFor_37 : decode cX11_darkFor 37 = .ok (.ifCond .le 35, 3) := by decide +kernel
theorem dX11_darkFor_40 : decode cX11_darkFor 40 = .ok (.aload_n 0, 1) := by decide +kernel
theorem dX11_darkFor_41 : decode cX11_darkFor 41 = .ok (.getfield 9, 3) := by decide +kernel
theorem dX11_darkFor_44 : decode cX11_darkFor 44 = .ok (.iconst 2, 1) := by decide +kernel
theorem dX11_darkFor_45 : decode cX11_darkFor 45 = .ok (.iload 5, 2) := by decide +kernel
theorem dX11_darkFor_47 : decode cX11_darkFor 47 = .ok (.iastore, 1) := by decide +kernel
theorem dX11_darkFor_48 : decode cX11_darkFor 48 = .ok (.aload_n 0, 1) := by decide +kernel
theorem dX11_darkFor_49 : decode cX11_darkFor 49 = .ok (.iload_n 1, 1) := by decide +kernel
theorem dX11_darkFor_50 : decode cX11_darkFor 50 = .ok (.invokevirtual 258, 3) := by decide +kernel
theorem dX11_darkFor_53 : decode cX11_darkFor 53 = .ok (.iload_n 2, 1) := by decide +kernel
theorem dX11_darkFor_54 : decode cX11_darkFor 54 = .ok (.if_icmp .lt 8, 3) := by decide +kernel
theorem dX11_darkFor_57 : decode cX11_darkFor 57 = .ok (.iload 5, 2) := by decide +kernel
theorem dX11_darkFor_59 : decode cX11_darkFor 59 = .ok (.goto 5, 3) := by decide +kernel
theorem dX11_darkFor_62 : decode cX11_darkFor 62 = .ok (.iload 4, 2) := by decide +kernel
theorem dX11_darkFor_64 : decode cX11_darkFor 64 = .ok (.istore 4, 2) := by decide +kernel
theorem dX11_darkFor_66 : decode cX11_darkFor 66 = .ok (.iinc 5 (-1), 3) := by decide +kernel
theorem dX11_darkFor_69 : decode cX11_darkFor 69 = .ok (.goto (-34), 3) := by decide +kernel
theorem dX11_darkFor_72 : decode cX11_darkFor 72 = .ok (.aload_n 0, 1) := by decide +kernel
theorem dX11_darkFor_73 : decode cX11_darkFor 73 = .ok (.getfield 9, 3) := by decide +kernel
theorem dX11_darkFor_76 : decode cX11_darkFor 76 = .ok (.iconst 2, 1) := by decide +kernel
theorem dX11_darkFor_77 : decode cX11_darkFor 77 = .ok (.iload_n 3, 1) := by decide +kernel
theorem dX11_darkFor_78 : decode cX11_darkFor 78 = .ok (.iastore, 1) := by decide +kernel
theorem dX11_darkFor_79 : decode cX11_darkFor 79 = .ok (.iload 4, 2) := by decide +kernel
theorem dX11_darkFor_81 : decode cX11_darkFor 81 = .ok (.ifCond .ge 13, 3) := by decide +kernel
theorem dX11_darkFor_84 : decode cX11_darkFor 84 = .ok (.aload_n 0, 1) := by decide +kernel
theorem dX11_darkFor_85 : decode cX11_darkFor 85 = .ok (.ldc_w 257, 3) := by decide +kernel
theorem dX11_darkFor_88 : decode cX11_darkFor 88 = .ok (.invokevirtual 82, 3) := by decide +kernel
theorem dX11_darkFor_91 : decode cX11_darkFor 91 = .ok (.goto 5, 3) := by decide +kernel
theorem dX11_darkFor_94 : decode cX11_darkFor 94 = .ok (.iload 4, 2) := by decide +kernel
theorem dX11_darkFor_96 : decode cX11_darkFor 96 = .ok (.ireturn, 1) := by decide +kernel
theorem dX11_serves_0 : decode cX11_serves 0 = .ok (.iload_n 2, 1) := by decide +kernel
theorem dX11_serves_1 : decode cX11_serves 1 = .ok (.bipush 8, 2) := by decide +kernel
theorem dX11_serves_3 : decode cX11_serves 3 = .ok (.if_icmp .ne 7, 3) := by decide +kernel
theorem dX11_serves_6 : decode cX11_serves 6 = .ok (.iconst 0, 1) := by decide +kernel
theorem dX11_serves_7 : decode cX11_serves 7 = .ok (.goto 21, 3) := by decide +kernel
theorem dX11_serves_10 : decode cX11_serves 10 = .ok (.aload_n 0, 1) := by decide +kernel
theorem dX11_serves_11 : decode cX11_serves 11 = .ok (.getfield 9, 3) := by decide +kernel
theorem dX11_serves_14 : decode cX11_serves 14 = .ok (.bipush 12, 2) := by decide +kernel
theorem dX11_serves_16 : decode cX11_serves 16 = .ok (.iload_n 1, 1) := by decide +kernel
theorem dX11_serves_17 : decode cX11_serves 17 = .ok (.iadd, 1) := by decide +kernel
theorem dX11_serves_18 : decode cX11_serves 18 = .ok (.iaload, 1) := by decide +kernel
theorem dX11_serves_19 : decode cX11_serves 19 = .ok (.aload_n 0, 1) := by decide +kernel
theorem dX11_serves_20 : decode cX11_serves 20 = .ok (.iload_n 2, 1) := by decide +kernel
theorem dX11_serves_21 : decode cX11_serves 21 = .ok (.iconst 3, 1) := by decide +kernel
theorem dX11_serves_22 : decode cX11_serves 22 = .ok (.invokevirtual 171, 3) := by decide +kernel
theorem dX11_serves_25 : decode cX11_serves 25 = .ok (.invokestatic 64, 3) := by decide +kernel
theorem dX11_serves_28 : decode cX11_serves 28 = .ok (.ireturn, 1) := by decide +kernel
theorem dX11_mayHave_0 : decode cX11_mayHave 0 = .ok (.iload_n 2, 1) := by decide +kernel
theorem dX11_mayHave_1 : decode cX11_mayHave 1 = .ok (.bipush 8, 2) := by decide +kernel
theorem dX11_mayHave_3 : decode cX11_mayHave 3 = .ok (.if_icmp .eq 21, 3) := by decide +kernel
theorem dX11_mayHave_6 : decode cX11_mayHave 6 = .ok (.iload_n 2, 1) := by decide +kernel
theorem dX11_mayHave_7 : decode cX11_mayHave 7 = .ok (.aload_n 0, 1) := by decide +kernel
theorem dX11_mayHave_8 : decode cX11_mayHave 8 = .ok (.getfield 9, 3) := by decide +kernel
theorem dX11_mayHave_11 : decode cX11_mayHave 11 = .ok (.iconst 1, 1) := by decide +kernel
theorem dX11_mayHave_12 : decode cX11_mayHave 12 = .ok (.iaload, 1) := by decide +kernel
theorem dX11_mayHave_13 : decode cX11_mayHave 13 = .ok (.if_icmp .ge 15, 3) := by decide +kernel
theorem dX11_mayHave_16 : decode cX11_mayHave 16 = .ok (.iload_n 1, 1) := by decide +kernel
theorem dX11_mayHave_17 : decode cX11_mayHave 17 = .ok (.iload_n 2, 1) := by decide +kernel
theorem dX11_mayHave_18 : decode cX11_mayHave 18 = .ok (.ishr, 1) := by decide +kernel
theorem dX11_mayHave_19 : decode cX11_mayHave 19 = .ok (.iconst 1, 1) := by decide +kernel
theorem dX11_mayHave_20 : decode cX11_mayHave 20 = .ok (.iand, 1) := by decide +kernel
theorem dX11_mayHave_21 : decode cX11_mayHave 21 = .ok (.ifCond .ne 7, 3) := by decide +kernel
theorem dX11_mayHave_24 : decode cX11_mayHave 24 = .ok (.iconst 1, 1) := by decide +kernel
theorem dX11_mayHave_25 : decode cX11_mayHave 25 = .ok (.goto 4, 3) := by decide +kernel
theorem dX11_mayHave_28 : decode cX11_mayHave 28 = .ok (.iconst 0, 1) := by decide +kernel
theorem dX11_mayHave_29 : decode cX11_mayHave 29 = .ok (.ireturn, 1) := by decide +kernel
theorem dX11_servedWith_0 : decode cX11_servedWith 0 = .ok (.iload_n 3, 1) := by decide +kernel
theorem dX11_servedWith_1 : decode cX11_servedWith 1 = .ok (.bipush 8, 2) := by decide +kernel
theorem dX11_servedWith_3 : decode cX11_servedWith 3 = .ok (.if_icmp .ne 7, 3) := by decide +kernel
theorem dX11_servedWith_6 : decode cX11_servedWith 6 = .ok (.iload_n 2, 1) := by decide +kernel
theorem dX11_servedWith_7 : decode cX11_servedWith 7 = .ok (.goto 8, 3) := by decide +kernel
theorem dX11_servedWith_10 : decode cX11_servedWith 10 = .ok (.iload_n 2, 1) := by decide +kernel
theorem dX11_servedWith_11 : decode cX11_servedWith 11 = .ok (.iconst 1, 1) := by decide +kernel
theorem dX11_servedWith_12 : decode cX11_servedWith 12 = .ok (.iload_n 3, 1) := by decide +kernel
theorem dX11_servedWith_13 : decode cX11_servedWith 13 = .ok (.ishl, 1) := by decide +kernel
theorem dX11_servedWith_14 : decode cX11_servedWith 14 = .ok (.ior, 1) := by decide +kernel
theorem dX11_servedWith_15 : decode cX11_servedWith 15 = .ok (.istore 4, 2) := by decide +kernel
theorem dX11_servedWith_17 : decode cX11_servedWith 17 = .ok (.aload_n 0, 1) := by decide +kernel
theorem dX11_servedWith_18 : decode cX11_servedWith 18 = .ok (.iload_n 1, 1) := by decide +kernel
theorem dX11_servedWith_19 : decode cX11_servedWith 19 = .ok (.iload_n 3, 1) := by decide +kernel
theorem dX11_servedWith_20 : decode cX11_servedWith 20 = .ok (.invokevirtual 270, 3) := by decide +kernel
theorem dX11_servedWith_23 : decode cX11_servedWith 23 = .ok (.aload_n 0, 1) := by decide +kernel
theorem dX11_servedWith_24 : decode cX11_servedWith 24 = .ok (.getfield 45, 3) := by decide +kernel
theorem dX11_servedWith_27 : decode cX11_servedWith 27 = .ok (.sipush 256, 3) := by decide +kernel
theorem dX11_servedWith_30 : decode cX11_servedWith 30 = .ok (.iload_n 1, 1) := by decide +kernel
theorem dX11_servedWith_31 : decode cX11_servedWith 31 = .ok (.iconst 1, 1) := by decide +kernel
theorem dX11_servedWith_32 : decode cX11_servedWith 32 = .ok (.iadd, 1) := by decide +kernel
theorem dX11_servedWith_33 : decode cX11_servedWith 33 = .ok (.imul, 1) := by decide +kernel
theorem dX11_servedWith_34 : decode cX11_servedWith 34 = .ok (.iload 4, 2) := by decide +kernel
theorem dX11_servedWith_36 : decode cX11_servedWith 36 = .ok (.iadd, 1) := by decide +kernel
theorem dX11_servedWith_37 : decode cX11_servedWith 37 = .ok (.iaload, 1) := by decide +kernel
theorem dX11_servedWith_38 : decode cX11_servedWith 38 = .ok (.iadd, 1) := by decide +kernel
theorem dX11_servedWith_39 : decode cX11_servedWith 39 = .ok (.ireturn, 1) := by decide +kernel
theorem dX11_areServed_0 : decode cX11_areServed 0 = .ok (.iconst 5, 1) := by decide +kernel
theorem dX11_areServed_1 : decode cX11_areServed 1 = .ok (.istore_n 1, 1) := by decide +kernel
theorem dX11_areServed_2 : decode cX11_areServed 2 = .ok (.iload_n 1, 1) := by decide +kernel
theorem dX11_areServed_3 : decode cX11_areServed 3 = .ok (.ifCond .lt 87, 3) := by decide +kernel
theorem dX11_areServed_6 : decode cX11_areServed 6 = .ok (.iconst 0, 1) := by decide +kernel
theorem dX11_areServed_7 : decode cX11_areServed 7 = .ok (.istore_n 2, 1) := by decide +kernel
theorem dX11_areServed_8 : decode cX11_areServed 8 = .ok (.iload_n 2, 1) := by decide +kernel
theorem dX11_areServed_9 : decode cX11_areServed 9 = .ok (.iconst 1, 1) := by decide +kernel
theorem dX11_areServed_10 : decode cX11_areServed 10 = .ok (.aload_n 0, 1) := by decide +kernel
theorem dX11_areServed_11 : decode cX11_areServed 11 = .ok (.getfield 9, 3) := by decide +kernel
theorem dX11_areServed_14 : decode cX11_areServed 14 = .ok (.iconst 1, 1) := by decide +kernel
theorem dX11_areServed_15 : decode cX11_areServed 15 = .ok (.iaload, 1) := by decide +kernel
theorem dX11_areServed_16 : decode cX11_areServed 16 = .ok (.ishl, 1) := by decide +kernel
theorem dX11_areServed_17 : decode cX11_areServed 17 = .ok (.if_icmp .ge 67, 3) := by decide +kernel
theorem dX11_areServed_20 : decode cX11_areServed 20 = .ok (.iconst 0, 1) := by decide +kernel
theorem dX11_areServed_21 : decode cX11_areServed 21 = .ok (.istore_n 3, 1) := by decide +kernel
theorem dX11_areServed_22 : decode cX11_areServed 22 = .ok (.iconst 0, 1) := by decide +kernel
theorem dX11_areServed_23 : decode cX11_areServed 23 = .ok (.istore 4, 2) := by decide +kernel
theorem dX11_areServed_25 : decode cX11_areServed 25 = .ok (.iload 4, 2) := by decide +kernel
theorem dX11_areServed_27 : decode cX11_areServed 27 = .ok (.bipush 8, 2) := by decide +kernel
theorem dX11_areServed_29 : decode cX11_areServed 29 = .ok (.if_icmp .gt 36, 3) := by decide +kernel
theorem dX11_areServed_32 : decode cX11_areServed 32 = .ok (.aload_n 0, 1) := by decide +kernel
theorem dX11_areServed_33 : decode cX11_areServed 33 = .ok (.iload_n 2, 1) := by decide +kernel
theorem dX11_areServed_34 : decode cX11_areServed 34 = .ok (.iload 4, 2) := by decide +kernel
theorem dX11_areServed_36 : decode cX11_areServed 36 = .ok (.invokevirtual 273, 3) := by decide +kernel
theorem dX11_areServed_39 : decode cX11_areServed 39 = .ok (.ifCond .eq 18, 3) := by decide +kernel
theorem dX11_areServed_42 : decode cX11_areServed 42 = .ok (.iload_n 3, 1) := by decide +kernel
theorem dX11_areServed_43 : decode cX11_areServed 43 = .ok (.aload_n 0, 1) := by decide +kernel
theorem dX11_areServed_44 : decode cX11_areServed 44 = .ok (.iload_n 1, 1) := by decide +kernel
theorem dX11_areServed_45 : decode cX11_areServed 45 = .ok (.iload_n 2, 1) := by decide +kernel
theorem dX11_areServed_46 : decode cX11_areServed 46 = .ok (.iload 4, 2) := by decide +kernel
theorem dX11_areServed_48 : decode cX11_areServed 48 = .ok (.invokevirtual 276, 3) := by decide +kernel
theorem dX11_areServed_51 : decode cX11_areServed 51 = .ok (.invokestatic 70, 3) := by decide +kernel
theorem dX11_areServed_54 : decode cX11_areServed 54 = .ok (.goto 4, 3) := by decide +kernel
theorem dX11_areServed_57 : decode cX11_areServed 57 = .ok (.iload_n 3, 1) := by decide +kernel
theorem dX11_areServed_58 : decode cX11_areServed 58 = .ok (.istore_n 3, 1) := by decide +kernel
theorem dX11_areServed_59 : decode cX11_areServed 59 = .ok (.iinc 4 1, 3) := by decide +kernel
theorem dX11_areServed_62 : decode cX11_areServed 62 = .ok (.goto (-37), 3) := by decide +kernel
theorem dX11_areServed_65 : decode cX11_areServed 65 = .ok (.aload_n 0, 1) := by decide +kernel
theorem dX11_areServed_66 : decode cX11_areServed 66 = .ok (.getfield 45, 3) := by decide +kernel
theorem dX11_areServed_69 : decode cX11_areServed 69 = .ok (.sipush 256, 3) := by decide +kernel
theorem dX11_areServed_72 : decode cX11_areServed 72 = .ok (.iload_n 1, 1) := by decide +kernel
theorem dX11_areServed_73 : decode cX11_areServed 73 = .ok (.imul, 1) := by decide +kernel
theorem dX11_areServed_74 : decode cX11_areServed 74 = .ok (.iload_n 2, 1) := by decide +kernel
theorem dX11_areServed_75 : decode cX11_areServed 75 = .ok (.iadd, 1) := by decide +kernel
theorem dX11_areServed_76 : decode cX11_areServed 76 = .ok (.iload_n 3, 1) := by decide +kernel
theorem dX11_areServed_77 : decode cX11_areServed 77 = .ok (.iastore, 1) := by decide +kernel
theorem dX11_areServed_78 : decode cX11_areServed 78 = .ok (.iinc 2 1, 3) := by decide +kernel
theorem dX11_areServed_81 : decode cX11_areServed 81 = .ok (.goto (-73), 3) := by decide +kernel
theorem dX11_areServed_84 : decode cX11_areServed 84 = .ok (.iinc 1 (-1), 3) := by decide +kernel
theorem dX11_areServed_87 : decode cX11_areServed 87 = .ok (.goto (-85), 3) := by decide +kernel
theorem dX11_areServed_90 : decode cX11_areServed 90 = .ok (.return_, 1) := by decide +kernel
theorem dX11_match_0 : decode cX11_match 0 = .ok (.iload_n 1, 1) := by decide +kernel
theorem dX11_match_1 : decode cX11_match 1 = .ok (.iconst (-1), 1) := by decide +kernel
theorem dX11_match_2 : decode cX11_match 2 = .ok (.iconst 5, 1) := by decide +kernel
theorem dX11_match_3 : decode cX11_match 3 = .ok (.invokestatic 77, 3) := by decide +kernel
theorem dX11_match_6 : decode cX11_match 6 = .ok (.ifCond .ne 10, 3) := by decide +kernel
theorem dX11_match_9 : decode cX11_match 9 = .ok (.aload_n 0, 1) := by decide +kernel
theorem dX11_match_10 : decode cX11_match 10 = .ok (.ldc 81, 2) := by decide +kernel
theorem dX11_match_12 : decode cX11_match 12 = .ok (.invokevirtual 82, 3) := by decide +kernel
theorem dX11_match_15 : decode cX11_match 15 = .ok (.ireturn, 1) := by decide +kernel
theorem dX11_match_16 : decode cX11_match 16 = .ok (.aload_n 0, 1) := by decide +kernel
theorem dX11_match_17 : decode cX11_match 17 = .ok (.invokevirtual 279, 3) := by decide +kernel
theorem dX11_match_20 : decode cX11_match 20 = .ok (.iload_n 1, 1) := by decide +kernel
theorem dX11_match_21 : decode cX11_match 21 = .ok (.ifCond .ge 10, 3) := by decide +kernel
theorem dX11_match_24 : decode cX11_match 24 = .ok (.aload_n 0, 1) := by decide +kernel
theorem dX11_match_25 : decode cX11_match 25 = .ok (.getfield 45, 3) := by decide +kernel
theorem dX11_match_28 : decode cX11_match 28 = .ok (.iconst 0, 1) := by decide +kernel
theorem dX11_match_29 : decode cX11_match 29 = .ok (.iaload, 1) := by decide +kernel
theorem dX11_match_30 : decode cX11_match 30 = .ok (.ireturn, 1) := by decide +kernel
theorem dX11_match_31 : decode cX11_match 31 = .ok (.iconst 0, 1) := by decide +kernel
theorem dX11_match_32 : decode cX11_match 32 = .ok (.istore_n 2, 1) := by decide +kernel
theorem dX11_match_33 : decode cX11_match 33 = .ok (.iconst 0, 1) := by decide +kernel
theorem dX11_match_34 : decode cX11_match 34 = .ok (.istore_n 3, 1) := by decide +kernel
theorem dX11_match_35 : decode cX11_match 35 = .ok (.iconst 0, 1) := by decide +kernel
theorem dX11_match_36 : decode cX11_match 36 = .ok (.istore 4, 2) := by decide +kernel
theorem dX11_match_38 : decode cX11_match 38 = .ok (.iload 4, 2) := by decide +kernel
theorem dX11_match_40 : decode cX11_match 40 = .ok (.iload_n 1, 1) := by decide +kernel
theorem dX11_match_41 : decode cX11_match 41 = .ok (.if_icmp .gt 66, 3) := by decide +kernel
theorem dX11_match_44 : decode cX11_match 44 = .ok (.iconst 0, 1) := by decide +kernel
theorem dX11_match_45 : decode cX11_match 45 = .ok (.istore_n 3, 1) := by decide +kernel
theorem dX11_match_46 : decode cX11_match 46 = .ok (.aload_n 0, 1) := by decide +kernel
theorem dX11_match_47 : decode cX11_match 47 = .ok (.iload_n 2, 1) := by decide +kernel
theorem dX11_match_48 : decode cX11_match 48 = .ok (.iload_n 3, 1) := by decide +kernel
theorem dX11_match_49 : decode cX11_match 49 = .ok (.invokevirtual 273, 3) := by decide +kernel
theorem dX11_match_52 : decode cX11_match 52 = .ok (.ifCond .eq 27, 3) := by decide +kernel
theorem dX11_match_55 : decode cX11_match 55 = .ok (.aload_n 0, 1) := by decide +kernel
theorem dX11_match_56 : decode cX11_match 56 = .ok (.iload 4, 2) := by decide +kernel
theorem dX11_match_58 : decode cX11_match 58 = .ok (.iload_n 2, 1) := by decide +kernel
theorem dX11_match_59 : decode cX11_match 59 = .ok (.iload_n 3, 1) := by decide +kernel
theorem dX11_match_60 : decode cX11_match 60 = .ok (.invokevirtual 276, 3) := by decide +kernel
theorem dX11_match_63 : decode cX11_match 63 = .ok (.aload_n 0, 1) := by decide +kernel
theorem dX11_match_64 : decode cX11_match 64 = .ok (.getfield 45, 3) := by decide +kernel
theorem dX11_match_67 : decode cX11_match 67 = .ok (.sipush 256, 3) := by decide +kernel
theorem dX11_match_70 : decode cX11_match 70 = .ok (.iload 4, 2) := by decide +kernel
theorem dX11_match_72 : decode cX11_match 72 = .ok (.imul, 1) := by decide +kernel
theorem dX11_match_73 : decode cX11_match 73 = .ok (.iload_n 2, 1) := by decide +kernel
theorem dX11_match_74 : decode cX11_match 74 = .ok (.iadd, 1) := by decide +kernel
theorem dX11_match_75 : decode cX11_match 75 = .ok (.iaload, 1) := by decide +kernel
theorem dX11_match_76 : decode cX11_match 76 = .ok (.if_icmp .ge 9, 3) := by decide +kernel
theorem dX11_match_79 : decode cX11_match 79 = .ok (.iinc 3 1, 3) := by decide +kernel
theorem dX11_match_82 : decode cX11_match 82 = .ok (.goto (-36), 3) := by decide +kernel
theorem dX11_match_85 : decode cX11_match 85 = .ok (.iload_n 2, 1) := by decide +kernel
theorem dX11_match_86 : decode cX11_match 86 = .ok (.iload_n 3, 1) := by decide +kernel
theorem dX11_match_87 : decode cX11_match 87 = .ok (.bipush 8, 2) := by decide +kernel
theorem dX11_match_89 : decode cX11_match 89 = .ok (.if_icmp .ne 7, 3) := by decide +kernel
theorem dX11_match_92 : decode cX11_match 92 = .ok (.iconst 0, 1) := by decide +kernel
theorem dX11_match_93 : decode cX11_match 93 = .ok (.goto 6, 3) := by decide +kernel
theorem dX11_match_96 : decode cX11_match 96 = .ok (.iconst 1, 1) := by decide +kernel
theorem dX11_match_97 : decode cX11_match 97 = .ok (.iload_n 3, 1) := by decide +kernel
theorem dX11_match_98 : decode cX11_match 98 = .ok (.ishl, 1) := by decide +kernel
theorem dX11_match_99 : decode cX11_match 99 = .ok (.ior, 1) := by decide +kernel
theorem dX11_match_100 : decode cX11_match 100 = .ok (.istore_n 2, 1) := by decide +kernel
theorem dX11_match_101 : decode cX11_match 101 = .ok (.iinc 4 1, 3) := by decide +kernel
theorem dX11_match_104 : decode cX11_match 104 = .ok (.goto (-66), 3) := by decide +kernel
theorem dX11_match_107 : decode cX11_match 107 = .ok (.iload_n 3, 1) := by decide +kernel
theorem dX11_match_108 : decode cX11_match 108 = .ok (.ireturn, 1) := by decide +kernel
theorem dX11_blend_0 : decode cX11_blend 0 = .ok (.iload_n 1, 1) := by decide +kernel
theorem dX11_blend_1 : decode cX11_blend 1 = .ok (.iconst 0, 1) := by decide +kernel
theorem dX11_blend_2 : decode cX11_blend 2 = .ok (.sipush 198, 3) := by decide +kernel
theorem dX11_blend_5 : decode cX11_blend 5 = .ok (.invokestatic 77, 3) := by decide +kernel
theorem dX11_blend_8 : decode cX11_blend 8 = .ok (.ifCond .ne 10, 3) := by decide +kernel
theorem dX11_blend_11 : decode cX11_blend 11 = .ok (.aload_n 0, 1) := by decide +kernel
theorem dX11_blend_12 : decode cX11_blend 12 = .ok (.ldc 81, 2) := by decide +kernel
theorem dX11_blend_14 : decode cX11_blend 14 = .ok (.invokevirtual 82, 3) := by decide +kernel
theorem dX11_blend_17 : decode cX11_blend 17 = .ok (.ireturn, 1) := by decide +kernel
theorem dX11_blend_18 : decode cX11_blend 18 = .ok (.iconst (-1), 1) := by decide +kernel
theorem dX11_blend_19 : decode cX11_blend 19 = .ok (.istore_n 2, 1) := by decide +kernel
theorem dX11_blend_20 : decode cX11_blend 20 = .ok (.sipush 792, 3) := by decide +kernel
theorem dX11_blend_23 : decode cX11_blend 23 = .ok (.istore_n 3, 1) := by decide +kernel
theorem dX11_blend_24 : decode cX11_blend 24 = .ok (.iconst 0, 1) := by decide +kernel
theorem dX11_blend_25 : decode cX11_blend 25 = .ok (.istore 4, 2) := by decide +kernel
theorem dX11_blend_27 : decode cX11_blend 27 = .ok (.iload 4, 2) := by decide +kernel
theorem dX11_blend_29 : decode cX11_blend 29 = .ok (.aload_n 0, 1) := by decide +kernel
theorem dX11_blend_30 : decode cX11_blend 30 = .ok (.getfield 9, 3) := by decide +kernel
theorem dX11_blend_33 : decode cX11_blend 33 = .ok (.iconst 1, 1) := by decide +kernel
theorem dX11_blend_34 : decode cX11_blend 34 = .ok (.iaload, 1) := by decide +kernel
theorem dX11_blend_35 : decode cX11_blend 35 = .ok (.if_icmp .ge 80, 3) := by decide +kernel
theorem dX11_blend_38 : decode cX11_blend 38 = .ok (.iload 4, 2) := by decide +kernel
theorem dX11_blend_40 : decode cX11_blend 40 = .ok (.iconst 1, 1) := by decide +kernel
theorem dX11_blend_41 : decode cX11_blend 41 = .ok (.iadd, 1) := by decide +kernel
theorem dX11_blend_42 : decode cX11_blend 42 = .ok (.istore 5, 2) := by decide +kernel
theorem dX11_blend_44 : decode cX11_blend 44 = .ok (.iload 5, 2) := by decide +kernel
theorem dX11_blend_46 : decode cX11_blend 46 = .ok (.aload_n 0, 1) := by decide +kernel
theorem dX11_blend_47 : decode cX11_blend 47 = .ok (.getfield 9, 3) := by decide +kernel
theorem dX11_blend_50 : decode cX11_blend 50 = .ok (.iconst 1, 1) := by decide +kernel
theorem dX11_blend_51 : decode cX11_blend 51 = .ok (.iaload, 1) := by decide +kernel
theorem dX11_blend_52 : decode cX11_blend 52 = .ok (.if_icmp .ge 57, 3) := by decide +kernel
theorem dX11_blend_55 : decode cX11_blend 55 = .ok (.aload_n 0, 1) := by decide +kernel
theorem dX11_blend_56 : decode cX11_blend 56 = .ok (.iload 4, 2) := by decide +kernel
theorem dX11_blend_58 : decode cX11_blend 58 = .ok (.iconst 3, 1) := by decide +kernel
theorem dX11_blend_59 : decode cX11_blend 59 = .ok (.invokevirtual 171, 3) := by decide +kernel
theorem dX11_blend_62 : decode cX11_blend 62 = .ok (.aload_n 0, 1) := by decide +kernel
theorem dX11_blend_63 : decode cX11_blend 63 = .ok (.iload 5, 2) := by decide +kernel
theorem dX11_blend_65 : decode cX11_blend 65 = .ok (.iconst 3, 1) := by decide +kernel
theorem dX11_blend_66 : decode cX11_blend 66 = .ok (.invokevirtual 171, 3) := by decide +kernel
theorem dX11_blend_69 : decode cX11_blend 69 = .ok (.iadd, 1) := by decide +kernel
theorem dX11_blend_70 : decode cX11_blend 70 = .ok (.iload_n 1, 1) := by decide +kernel
theorem dX11_blend_71 : decode cX11_blend 71 = .ok (.isub, 1) := by decide +kernel
theorem dX11_blend_72 : decode cX11_blend 72 = .ok (.invokestatic 282, 3) := by decide +kernel
theorem dX11_blend_75 : decode cX11_blend 75 = .ok (.istore 6, 2) := by decide +kernel
theorem dX11_blend_77 : decode cX11_blend 77 = .ok (.iload 6, 2) := by decide +kernel
theorem dX11_blend_79 : decode cX11_blend 79 = .ok (.iload_n 3, 1) := by decide +kernel
theorem dX11_blend_80 : decode cX11_blend 80 = .ok (.if_icmp .ge 14, 3) := by decide +kernel
theorem dX11_blend_83 : decode cX11_blend 83 = .ok (.bipush 10, 2) := by decide +kernel
theorem dX11_blend_85 : decode cX11_blend 85 = .ok (.iload 4, 2) := by decide +kernel
theorem dX11_blend_87 : decode cX11_blend 87 = .ok (.imul, 1) := by decide +kernel
theorem dX11_blend_88 : decode cX11_blend 88 = .ok (.iload 5, 2) := by decide +kernel
theorem dX11_blend_90 : decode cX11_blend 90 = .ok (.iadd, 1) := by decide +kernel
theorem dX11_blend_91 : decode cX11_blend 91 = .ok (.goto 4, 3) := by decide +kernel
theorem dX11_blend_94 : decode cX11_blend 94 = .ok (.iload_n 2, 1) := by decide +kernel
theorem dX11_blend_95 : decode cX11_blend 95 = .ok (.istore_n 2, 1) := by decide +kernel
theorem dX11_blend_96 : decode cX11_blend 96 = .ok (.iload_n 3, 1) := by decide +kernel
theorem dX11_blend_97 : decode cX11_blend 97 = .ok (.iload 6, 2) := by decide +kernel
theorem dX11_blend_99 : decode cX11_blend 99 = .ok (.invokestatic 64, 3) := by decide +kernel
theorem dX11_blend_102 : decode cX11_blend 102 = .ok (.istore_n 3, 1) := by decide +kernel
theorem dX11_blend_103 : decode cX11_blend 103 = .ok (.iinc 5 1, 3) := by decide +kernel
theorem dX11_blend_106 : decode cX11_blend 106 = .ok (.goto (-62), 3) := by decide +kernel
theorem dX11_blend_109 : decode cX11_blend 109 = .ok (.iinc 4 1, 3) := by decide +kernel
theorem dX11_blend_112 : decode cX11_blend 112 = .ok (.goto (-85), 3) := by decide +kernel
theorem dX11_blend_115 : decode cX11_blend 115 = .ok (.iload_n 2, 1) := by decide +kernel
theorem dX11_blend_116 : decode cX11_blend 116 = .ok (.ifCond .ge 13, 3) := by decide +kernel
theorem dX11_blend_119 : decode cX11_blend 119 = .ok (.aload_n 0, 1) := by decide +kernel
theorem dX11_blend_120 : decode cX11_blend 120 = .ok (.ldc_w 257, 3) := by decide +kernel
theorem dX11_blend_123 : decode cX11_blend 123 = .ok (.invokevirtual 82, 3) := by decide +kernel
theorem dX11_blend_126 : decode cX11_blend 126 = .ok (.goto 4, 3) := by decide +kernel
theorem dX11_blend_129 : decode cX11_blend 129 = .ok (.iload_n 2, 1) := by decide +kernel
theorem dX11_blend_130 : decode cX11_blend 130 = .ok (.ireturn, 1) := by decide +kernel
theorem dX11_isSoHad_0 : decode cX11_isSoHad 0 = .ok (.aload_n 0, 1) := by decide +kernel
theorem dX11_isSoHad_1 : decode cX11_isSoHad 1 = .ok (.getfield 9, 3) := by decide +kernel
theorem dX11_isSoHad_4 : decode cX11_isSoHad 4 = .ok (.aload_n 0, 1) := by decide +kernel
theorem dX11_isSoHad_5 : decode cX11_isSoHad 5 = .ok (.getfield 16, 3) := by decide +kernel
theorem dX11_isSoHad_8 : decode cX11_isSoHad 8 = .ok (.invokestatic 73, 3) := by decide +kernel
theorem dX11_isSoHad_11 : decode cX11_isSoHad 11 = .ok (.iconst 1, 1) := by decide +kernel
theorem dX11_isSoHad_12 : decode cX11_isSoHad 12 = .ok (.istore_n 2, 1) := by decide +kernel
theorem dX11_isSoHad_13 : decode cX11_isSoHad 13 = .ok (.iconst 0, 1) := by decide +kernel
theorem dX11_isSoHad_14 : decode cX11_isSoHad 14 = .ok (.istore_n 3, 1) := by decide +kernel
theorem dX11_isSoHad_15 : decode cX11_isSoHad 15 = .ok (.iload_n 3, 1) := by decide +kernel
theorem dX11_isSoHad_16 : decode cX11_isSoHad 16 = .ok (.aload_n 0, 1) := by decide +kernel
theorem dX11_isSoHad_17 : decode cX11_isSoHad 17 = .ok (.getfield 54, 3) := by decide +kernel
theorem dX11_isSoHad_20 : decode cX11_isSoHad 20 = .ok (.iload_n 1, 1) := by decide +kernel
theorem dX11_isSoHad_21 : decode cX11_isSoHad 21 = .ok (.iaload, 1) := by decide +kernel
theorem dX11_isSoHad_22 : decode cX11_isSoHad 22 = .ok (.if_icmp .ge 41, 3) := by decide +kernel
theorem dX11_isSoHad_25 : decode cX11_isSoHad 25 = .ok (.iload_n 2, 1) := by decide +kernel
theorem dX11_isSoHad_26 : decode cX11_isSoHad 26 = .ok (.ifCond .eq 37, 3) := by decide +kernel
theorem dX11_isSoHad_29 : decode cX11_isSoHad 29 = .ok (.aload_n 0, 1) := by decide +kernel
theorem dX11_isSoHad_30 : decode cX11_isSoHad 30 = .ok (.invokevirtual 234, 3) := by decide +kernel
theorem dX11_isSoHad_33 : decode cX11_isSoHad 33 = .ok (.aload_n 0, 1) := by decide +kernel
theorem dX11_isSoHad_34 : decode cX11_isSoHad 34 = .ok (.getfield 57, 3) := by decide +kernel
theorem dX11_isSoHad_37 : decode cX11_isSoHad 37 = .ok (.bipush 40, 2) := by decide +kernel
theorem dX11_isSoHad_39 : decode cX11_isSoHad 39 = .ok (.iload_n 1, 1) := by decide +kernel
theorem dX11_isSoHad_40 : decode cX11_isSoHad 40 = .ok (.imul, 1) := by decide +kernel
theorem dX11_isSoHad_41 : decode cX11_isSoHad 41 = .ok (.iload_n 3, 1) := by decide +kernel
theorem dX11_isSoHad_42 : decode cX11_isSoHad 42 = .ok (.iadd, 1) := by decide +kernel
theorem dX11_isSoHad_43 : decode cX11_isSoHad 43 = .ok (.iaload, 1) := by decide +kernel
theorem dX11_isSoHad_44 : decode cX11_isSoHad 44 = .ok (.aload_n 0, 1) := by decide +kernel
theorem dX11_isSoHad_45 : decode cX11_isSoHad 45 = .ok (.invokevirtual 237, 3) := by decide +kernel
theorem dX11_isSoHad_48 : decode cX11_isSoHad 48 = .ok (.if_icmp .ne 7, 3) := by decide +kernel
theorem dX11_isSoHad_51 : decode cX11_isSoHad 51 = .ok (.iconst 1, 1) := by decide +kernel
theorem dX11_isSoHad_52 : decode cX11_isSoHad 52 = .ok (.goto 4, 3) := by decide +kernel
theorem dX11_isSoHad_55 : decode cX11_isSoHad 55 = .ok (.iconst 0, 1) := by decide +kernel
theorem dX11_isSoHad_56 : decode cX11_isSoHad 56 = .ok (.istore_n 2, 1) := by decide +kernel
theorem dX11_isSoHad_57 : decode cX11_isSoHad 57 = .ok (.iinc 3 1, 3) := by decide +kernel
theorem dX11_isSoHad_60 : decode cX11_isSoHad 60 = .ok (.goto (-45), 3) := by decide +kernel
theorem dX11_isSoHad_63 : decode cX11_isSoHad 63 = .ok (.aload_n 0, 1) := by decide +kernel
theorem dX11_isSoHad_64 : decode cX11_isSoHad 64 = .ok (.getfield 16, 3) := by decide +kernel
theorem dX11_isSoHad_67 : decode cX11_isSoHad 67 = .ok (.aload_n 0, 1) := by decide +kernel
theorem dX11_isSoHad_68 : decode cX11_isSoHad 68 = .ok (.getfield 9, 3) := by decide +kernel
theorem dX11_isSoHad_71 : decode cX11_isSoHad 71 = .ok (.invokestatic 73, 3) := by decide +kernel
theorem dX11_isSoHad_74 : decode cX11_isSoHad 74 = .ok (.iload_n 2, 1) := by decide +kernel
theorem dX11_isSoHad_75 : decode cX11_isSoHad 75 = .ok (.ireturn, 1) := by decide +kernel
theorem dX11_which_0 : decode cX11_which 0 = .ok (.iload_n 1, 1) := by decide +kernel
theorem dX11_which_1 : decode cX11_which 1 = .ok (.invokestatic 285, 3) := by decide +kernel
theorem dX11_which_4 : decode cX11_which 4 = .ok (.ifCond .eq 11, 3) := by decide +kernel
theorem dX11_which_7 : decode cX11_which 7 = .ok (.aload_n 0, 1) := by decide +kernel
theorem dX11_which_8 : decode cX11_which 8 = .ok (.iload_n 2, 1) := by decide +kernel
theorem dX11_which_9 : decode cX11_which 9 = .ok (.invokevirtual 205, 3) := by decide +kernel
theorem dX11_which_12 : decode cX11_which 12 = .ok (.ifCond .ne 10, 3) := by decide +kernel
theorem dX11_which_15 : decode cX11_which 15 = .ok (.aload_n 0, 1) := by decide +kernel
theorem dX11_which_16 : decode cX11_which 16 = .ok (.ldc 81, 2) := by decide +kernel
theorem dX11_which_18 : decode cX11_which 18 = .ok (.invokevirtual 82, 3) := by decide +kernel
theorem dX11_which_21 : decode cX11_which 21 = .ok (.ireturn, 1) := by decide +kernel
theorem dX11_which_22 : decode cX11_which 22 = .ok (.aload_n 0, 1) := by decide +kernel
theorem dX11_which_23 : decode cX11_which 23 = .ok (.getfield 51, 3) := by decide +kernel
theorem dX11_which_26 : decode cX11_which 26 = .ok (.iload_n 1, 1) := by decide +kernel
theorem dX11_which_27 : decode cX11_which 27 = .ok (.iaload, 1) := by decide +kernel
theorem dX11_which_28 : decode cX11_which 28 = .ok (.ifCond .ne 11, 3) := by decide +kernel
theorem dX11_which_31 : decode cX11_which 31 = .ok (.aload_n 0, 1) := by decide +kernel
theorem dX11_which_32 : decode cX11_which 32 = .ok (.ldc_w 257, 3) := by decide +kernel
theorem dX11_which_35 : decode cX11_which 35 = .ok (.invokevirtual 82, 3) := by decide +kernel
theorem dX11_which_38 : decode cX11_which 38 = .ok (.ireturn, 1) := by decide +kernel
theorem dX11_which_39 : decode cX11_which 39 = .ok (.aload_n 0, 1) := by decide +kernel
theorem dX11_which_40 : decode cX11_which 40 = .ok (.iload_n 2, 1) := by decide +kernel
theorem dX11_which_41 : decode cX11_which 41 = .ok (.iconst 0, 1) := by decide +kernel
theorem dX11_which_42 : decode cX11_which 42 = .ok (.invokevirtual 171, 3) := by decide +kernel
theorem dX11_which_45 : decode cX11_which 45 = .ok (.istore_n 3, 1) := by decide +kernel
theorem dX11_which_46 : decode cX11_which 46 = .ok (.iconst 0, 1) := by decide +kernel
theorem dX11_which_47 : decode cX11_which 47 = .ok (.istore 4, 2) := by decide +kernel
theorem dX11_which_49 : decode cX11_which 49 = .ok (.iconst 0, 1) := by decide +kernel
theorem dX11_which_50 : decode cX11_which 50 = .ok (.istore 5, 2) := by decide +kernel
theorem dX11_which_52 : decode cX11_which 52 = .ok (.iload 5, 2) := by decide +kernel
theorem dX11_which_54 : decode cX11_which 54 = .ok (.bipush 6, 2) := by decide +kernel
theorem dX11_which_56 : decode cX11_which 56 = .ok (.if_icmp .gt 42, 3) := by decide +kernel
theorem dX11_which_59 : decode cX11_which 59 = .ok (.aload_n 0, 1) := by decide +kernel
theorem dX11_which_60 : decode cX11_which 60 = .ok (.getfield 9, 3) := by decide +kernel
theorem dX11_which_63 : decode cX11_which 63 = .ok (.iload_n 2, 1) := by decide +kernel
theorem dX11_which_64 : decode cX11_which 64 = .ok (.iconst 0, 1) := by decide +kernel
theorem dX11_which_65 : decode cX11_which 65 = .ok (.invokestatic 186, 3) := by decide +kernel
theorem dX11_which_68 : decode cX11_which 68 = .ok (.iload 5, 2) := by decide +kernel
theorem dX11_which_70 : decode cX11_which 70 = .ok (.iastore, 1) := by decide +kernel
theorem dX11_which_71 : decode cX11_which 71 = .ok (.iload 4, 2) := by decide +kernel
theorem dX11_which_73 : decode cX11_which 73 = .ok (.aload_n 0, 1) := by decide +kernel
theorem dX11_which_74 : decode cX11_which 74 = .ok (.iload_n 1, 1) := by decide +kernel
theorem dX11_which_75 : decode cX11_which 75 = .ok (.invokevirtual 288, 3) := by decide +kernel
theorem dX11_which_78 : decode cX11_which 78 = .ok (.ifCond .eq 10, 3) := by decide +kernel
theorem dX11_which_81 : decode cX11_which 81 = .ok (.iconst 1, 1) := by decide +kernel
theorem dX11_which_82 : decode cX11_which 82 = .ok (.iload 5, 2) := by decide +kernel
theorem dX11_which_84 : decode cX11_which 84 = .ok (.ishl, 1) := by decide +kernel
theorem dX11_which_85 : decode cX11_which 85 = .ok (.goto 4, 3) := by decide +kernel
theorem dX11_which_88 : decode cX11_which 88 = .ok (.iconst 0, 1) := by decide +kernel
theorem dX11_which_89 : decode cX11_which 89 = .ok (.ior, 1) := by decide +kernel
theorem dX11_which_90 : decode cX11_which 90 = .ok (.istore 4, 2) := by decide +kernel
theorem dX11_which_92 : decode cX11_which 92 = .ok (.iinc 5 1, 3) := by decide +kernel
theorem dX11_which_95 : decode cX11_which 95 = .ok (.goto (-43), 3) := by decide +kernel
theorem dX11_which_98 : decode cX11_which 98 = .ok (.aload_n 0, 1) := by decide +kernel
theorem dX11_which_99 : decode cX11_which 99 = .ok (.getfield 9, 3) := by decide +kernel
theorem dX11_which_102 : decode cX11_which 102 = .ok (.iload_n 2, 1) := by decide +kernel
theorem dX11_which_103 : decode cX11_which 103 = .ok (.iconst 0, 1) := by decide +kernel
theorem dX11_which_104 : decode cX11_which 104 = .ok (.invokestatic 186, 3) := by decide +kernel
theorem dX11_which_107 : decode cX11_which 107 = .ok (.iload_n 3, 1) := by decide +kernel
theorem dX11_which_108 : decode cX11_which 108 = .ok (.iastore, 1) := by decide +kernel
theorem dX11_which_109 : decode cX11_which 109 = .ok (.iload 4, 2) := by decide +kernel
theorem dX11_which_111 : decode cX11_which 111 = .ok (.ireturn, 1) := by decide +kernel
theorem dX11_lay_0 : decode cX11_lay 0 = .ok (.iload_n 1, 1) := by decide +kernel
theorem dX11_lay_1 : decode cX11_lay 1 = .ok (.invokestatic 285, 3) := by decide +kernel
theorem dX11_lay_4 : decode cX11_lay 4 = .ok (.ifCond .eq 19, 3) := by decide +kernel
theorem dX11_lay_7 : decode cX11_lay 7 = .ok (.iload_n 2, 1) := by decide +kernel
theorem dX11_lay_8 : decode cX11_lay 8 = .ok (.invokestatic 165, 3) := by decide +kernel
theorem dX11_lay_11 : decode cX11_lay 11 = .ok (.ifCond .eq 12, 3) := by decide +kernel
theorem dX11_lay_14 : decode cX11_lay 14 = .ok (.iload_n 3, 1) := by decide +kernel
theorem dX11_lay_15 : decode cX11_lay 15 = .ok (.iconst 0, 1) := by decide +kernel
theorem dX11_lay_16 : decode cX11_lay 16 = .ok (.iconst 1, 1) := by decide +kernel
theorem dX11_lay_17 : decode cX11_lay 17 = .ok (.invokestatic 77, 3) := by decide +kernel
theorem dX11_lay_20 : decode cX11_lay 20 = .ok (.ifCond .ne 10, 3) := by decide +kernel
theorem dX11_lay_23 : decode cX11_lay 23 = .ok (.aload_n 0, 1) := by decide +kernel
theorem dX11_lay_24 : decode cX11_lay 24 = .ok (.ldc 81, 2) := by decide +kernel
theorem dX11_lay_26 : decode cX11_lay 26 = .ok (.invokevirtual 82, 3) := by decide +kernel
theorem dX11_lay_29 : decode cX11_lay 29 = .ok (.ireturn, 1) := by decide +kernel
theorem dX11_lay_30 : decode cX11_lay 30 = .ok (.aload_n 0, 1) := by decide +kernel
theorem dX11_lay_31 : decode cX11_lay 31 = .ok (.getfield 51, 3) := by decide +kernel
theorem dX11_lay_34 : decode cX11_lay 34 = .ok (.iload_n 1, 1) := by decide +kernel
theorem dX11_lay_35 : decode cX11_lay 35 = .ok (.iaload, 1) := by decide +kernel
theorem dX11_lay_36 : decode cX11_lay 36 = .ok (.ifCond .ne 11, 3) := by decide +kernel
theorem dX11_lay_39 : decode cX11_lay 39 = .ok (.aload_n 0, 1) := by decide +kernel
theorem dX11_lay_40 : decode cX11_lay 40 = .ok (.ldc_w 257, 3) := by decide +kernel
theorem dX11_lay_43 : decode cX11_lay 43 = .ok (.invokevirtual 82, 3) := by decide +kernel
theorem dX11_lay_46 : decode cX11_lay 46 = .ok (.ireturn, 1) := by decide +kernel
theorem dX11_lay_47 : decode cX11_lay 47 = .ok (.aload_n 0, 1) := by decide +kernel
theorem dX11_lay_48 : decode cX11_lay 48 = .ok (.getfield 9, 3) := by decide +kernel
theorem dX11_lay_51 : decode cX11_lay 51 = .ok (.bipush 34, 2) := by decide +kernel
theorem dX11_lay_53 : decode cX11_lay 53 = .ok (.iload_n 2, 1) := by decide +kernel
theorem dX11_lay_54 : decode cX11_lay 54 = .ok (.iadd, 1) := by decide +kernel
theorem dX11_lay_55 : decode cX11_lay 55 = .ok (.iaload, 1) := by decide +kernel
theorem dX11_lay_56 : decode cX11_lay 56 = .ok (.istore 4, 2) := by decide +kernel
theorem dX11_lay_58 : decode cX11_lay 58 = .ok (.iconst 0, 1) := by decide +kernel
theorem dX11_lay_59 : decode cX11_lay 59 = .ok (.istore 5, 2) := by decide +kernel
theorem dX11_lay_61 : decode cX11_lay 61 = .ok (.iconst (-1), 1) := by decide +kernel
theorem dX11_lay_62 : decode cX11_lay 62 = .ok (.istore 6, 2) := by decide +kernel
theorem dX11_lay_64 : decode cX11_lay 64 = .ok (.bipush 99, 2) := by decide +kernel
theorem dX11_lay_66 : decode cX11_lay 66 = .ok (.istore 7, 2) := by decide +kernel
theorem dX11_lay_68 : decode cX11_lay 68 = .ok (.iload 7, 2) := by decide +kernel
theorem dX11_lay_70 : decode cX11_lay 70 = .ok (.ifCond .lt 56, 3) := by decide +kernel
theorem dX11_lay_73 : decode cX11_lay 73 = .ok (.aload_n 0, 1) := by decide +kernel
theorem dX11_lay_74 : decode cX11_lay 74 = .ok (.getfield 9, 3) := by decide +kernel
theorem dX11_lay_77 : decode cX11_lay 77 = .ok (.bipush 34, 2) := by decide +kernel
theorem dX11_lay_79 : decode cX11_lay 79 = .ok (.iload_n 2, 1) := by decide +kernel
theorem dX11_lay_80 : decode cX11_lay 80 = .ok (.iadd, 1) := by decide +kernel
theorem dX11_lay_81 : decode cX11_lay 81 = .ok (.iload 7, 2) := by decide +kernel
theorem dX11_lay_83 : decode cX11_lay 83 = .ok (.iastore, 1) := by decide +kernel
theorem dX11_lay_84 : decode cX11_lay 84 = .ok (.aload_n 0, 1) := by decide +kernel
theorem dX11_lay_85 : decode cX11_lay 85 = .ok (.iload_n 1, 1) := by decide +kernel
theorem dX11_lay_86 : decode cX11_lay 86 = .ok (.invokevirtual 288, 3) := by decide +kernel
theorem dX11_lay_89 : decode cX11_lay 89 = .ok (.istore 8, 2) := by decide +kernel
theorem dX11_lay_91 : decode cX11_lay 91 = .ok (.iload 5, 2) := by decide +kernel
theorem dX11_lay_93 : decode cX11_lay 93 = .ok (.iload 8, 2) := by decide +kernel
theorem dX11_lay_95 : decode cX11_lay 95 = .ok (.ifCond .eq 7, 3) := by decide +kernel
theorem dX11_lay_98 : decode cX11_lay 98 = .ok (.iconst 1, 1) := by decide +kernel
theorem dX11_lay_99 : decode cX11_lay 99 = .ok (.goto 4, 3) := by decide +kernel
theorem dX11_lay_102 : decode cX11_lay 102 = .ok (.iconst 0, 1) := by decide +kernel
theorem dX11_lay_103 : decode cX11_lay 103 = .ok (.iadd, 1) := by decide +kernel
theorem dX11_lay_104 : decode cX11_lay 104 = .ok (.istore 5, 2) := by decide +kernel
theorem dX11_lay_106 : decode cX11_lay 106 = .ok (.iload 8, 2) := by decide +kernel
theorem dX11_lay_108 : decode cX11_lay 108 = .ok (.ifCond .eq 8, 3) := by decide +kernel
theorem dX11_lay_111 : decode cX11_lay 111 = .ok (.iload 7, 2) := by decide +kernel
theorem dX11_lay_113 : decode cX11_lay 113 = .ok (.goto 5, 3) := by decide +kernel
theorem dX11_lay_116 : decode cX11_lay 116 = .ok (.iload 6, 2) := by decide +kernel
theorem dX11_lay_118 : decode cX11_lay 118 = .ok (.istore 6, 2) := by decide +kernel
theorem dX11_lay_120 : decode cX11_lay 120 = .ok (.iinc 7 (-1), 3) := by decide +kernel
theorem dX11_lay_123 : decode cX11_lay 123 = .ok (.goto (-55), 3) := by decide +kernel
theorem dX11_lay_126 : decode cX11_lay 126 = .ok (.aload_n 0, 1) := by decide +kernel
theorem dX11_lay_127 : decode cX11_lay 127 = .ok (.getfield 9, 3) := by decide +kernel
theorem dX11_lay_130 : decode cX11_lay 130 = .ok (.bipush 34, 2) := by decide +kernel
theorem dX11_lay_132 : decode cX11_lay 132 = .ok (.iload_n 2, 1) := by decide +kernel
theorem dX11_lay_133 : decode cX11_lay 133 = .ok (.iadd, 1) := by decide +kernel
theorem dX11_lay_134 : decode cX11_lay 134 = .ok (.iload 4, 2) := by decide +kernel
theorem dX11_lay_136 : decode cX11_lay 136 = .ok (.iastore, 1) := by decide +kernel
theorem dX11_lay_137 : decode cX11_lay 137 = .ok (.iload_n 3, 1) := by decide +kernel
theorem dX11_lay_138 : decode cX11_lay 138 = .ok (.ifCond .ne 8, 3) := by decide +kernel
theorem dX11_lay_141 : decode cX11_lay 141 = .ok (.iload 5, 2) := by decide +kernel
theorem dX11_lay_143 : decode cX11_lay 143 = .ok (.goto 20, 3) := by decide +kernel
theorem dX11_lay_146 : decode cX11_lay 146 = .ok (.iload 6, 2) := by decide +kernel
theorem dX11_lay_148 : decode cX11_lay 148 = .ok (.ifCond .ge 13, 3) := by decide +kernel
theorem dX11_lay_151 : decode cX11_lay 151 = .ok (.aload_n 0, 1) := by decide +kernel
theorem dX11_lay_152 : decode cX11_lay 152 = .ok (.ldc_w 257, 3) := by decide +kernel
theorem dX11_lay_155 : decode cX11_lay 155 = .ok (.invokevirtual 82, 3) := by decide +kernel
theorem dX11_lay_158 : decode cX11_lay 158 = .ok (.goto 5, 3) := by decide +kernel
theorem dX11_lay_161 : decode cX11_lay 161 = .ok (.iload 6, 2) := by decide +kernel
theorem dX11_lay_163 : decode cX11_lay 163 = .ok (.ireturn, 1) := by decide +kernel
theorem dX11_odds_0 : decode cX11_odds 0 = .ok (.iload_n 1, 1) := by decide +kernel
theorem dX11_odds_1 : decode cX11_odds 1 = .ok (.iconst 0, 1) := by decide +kernel
theorem dX11_odds_2 : decode cX11_odds 2 = .ok (.bipush 30, 2) := by decide +kernel
theorem dX11_odds_4 : decode cX11_odds 4 = .ok (.invokestatic 77, 3) := by decide +kernel
theorem dX11_odds_7 : decode cX11_odds 7 = .ok (.ifCond .eq 19, 3) := by decide +kernel
theorem dX11_odds_10 : decode cX11_odds 10 = .ok (.iload_n 2, 1) := by decide +kernel
theorem dX11_odds_11 : decode cX11_odds 11 = .ok (.invokestatic 267, 3) := by decide +kernel
theorem dX11_odds_14 : decode cX11_odds 14 = .ok (.ifCond .eq 12, 3) := by decide +kernel
theorem dX11_odds_17 : decode cX11_odds 17 = .ok (.iload_n 3, 1) := by decide +kernel
theorem dX11_odds_18 : decode cX11_odds 18 = .ok (.iconst 0, 1) := by decide +kernel
theorem dX11_odds_19 : decode cX11_odds 19 = .ok (.iconst 1, 1) := by decide +kernel
theorem dX11_odds_20 : decode cX11_odds 20 = .ok (.invokestatic 77, 3) := by decide +kernel
theorem dX11_odds_23 : decode cX11_odds 23 = .ok (.ifCond .ne 10, 3) := by decide +kernel
theorem dX11_odds_26 : decode cX11_odds 26 = .ok (.aload_n 0, 1) := by decide +kernel
theorem dX11_odds_27 : decode cX11_odds 27 = .ok (.ldc 81, 2) := by decide +kernel
theorem dX11_odds_29 : decode cX11_odds 29 = .ok (.invokevirtual 82, 3) := by decide +kernel
theorem dX11_odds_32 : decode cX11_odds 32 = .ok (.ireturn, 1) := by decide +kernel
theorem dX11_odds_33 : decode cX11_odds 33 = .ok (.aload_n 0, 1) := by decide +kernel
theorem dX11_odds_34 : decode cX11_odds 34 = .ok (.getfield 9, 3) := by decide +kernel
theorem dX11_odds_37 : decode cX11_odds 37 = .ok (.iconst 2, 1) := by decide +kernel
theorem dX11_odds_38 : decode cX11_odds 38 = .ok (.iaload, 1) := by decide +kernel
theorem dX11_odds_39 : decode cX11_odds 39 = .ok (.istore 4, 2) := by decide +kernel
theorem dX11_odds_41 : decode cX11_odds 41 = .ok (.iconst 0, 1) := by decide +kernel
theorem dX11_odds_42 : decode cX11_odds 42 = .ok (.istore 5, 2) := by decide +kernel
theorem dX11_odds_44 : decode cX11_odds 44 = .ok (.iconst 1, 1) := by decide +kernel
theorem dX11_odds_45 : decode cX11_odds 45 = .ok (.istore 6, 2) := by decide +kernel
theorem dX11_odds_47 : decode cX11_odds 47 = .ok (.iload 6, 2) := by decide +kernel
theorem dX11_odds_49 : decode cX11_odds 49 = .ok (.bipush 20, 2) := by decide +kernel
theorem dX11_odds_51 : decode cX11_odds 51 = .ok (.if_icmp .gt 36, 3) := by decide +kernel
theorem dX11_odds_54 : decode cX11_odds 54 = .ok (.aload_n 0, 1) := by decide +kernel
theorem dX11_odds_55 : decode cX11_odds 55 = .ok (.getfield 9, 3) := by decide +kernel
theorem dX11_odds_58 : decode cX11_odds 58 = .ok (.iconst 2, 1) := by decide +kernel
theorem dX11_odds_59 : decode cX11_odds 59 = .ok (.iload 6, 2) := by decide +kernel
theorem dX11_odds_61 : decode cX11_odds 61 = .ok (.iastore, 1) := by decide +kernel
theorem dX11_odds_62 : decode cX11_odds 62 = .ok (.iload 5, 2) := by decide +kernel
theorem dX11_odds_64 : decode cX11_odds 64 = .ok (.aload_n 0, 1) := by decide +kernel
theorem dX11_odds_65 : decode cX11_odds 65 = .ok (.iload_n 1, 1) := by decide +kernel
theorem dX11_odds_66 : decode cX11_odds 66 = .ok (.invokevirtual 258, 3) := by decide +kernel
theorem dX11_odds_69 : decode cX11_odds 69 = .ok (.iload_n 2, 1) := by decide +kernel
theorem dX11_odds_70 : decode cX11_odds 70 = .ok (.if_icmp .lt 7, 3) := by decide +kernel
theorem dX11_odds_73 : decode cX11_odds 73 = .ok (.iconst 1, 1) := by decide +kernel
theorem dX11_odds_74 : decode cX11_odds 74 = .ok (.goto 4, 3) := by decide +kernel
theorem dX11_odds_77 : decode cX11_odds 77 = .ok (.iconst 0, 1) := by decide +kernel
theorem dX11_odds_78 : decode cX11_odds 78 = .ok (.iadd, 1) := by decide +kernel
theorem dX11_odds_79 : decode cX11_odds 79 = .ok (.istore 5, 2) := by decide +kernel
theorem dX11_odds_81 : decode cX11_odds 81 = .ok (.iinc 6 1, 3) := by decide +kernel
theorem dX11_odds_84 : decode cX11_odds 84 = .ok (.goto (-37), 3) := by decide +kernel
theorem dX11_odds_87 : decode cX11_odds 87 = .ok (.aload_n 0, 1) := by decide +kernel
theorem dX11_odds_88 : decode cX11_odds 88 = .ok (.getfield 9, 3) := by decide +kernel
theorem dX11_odds_91 : decode cX11_odds 91 = .ok (.iconst 2, 1) := by decide +kernel
theorem dX11_odds_92 : decode cX11_odds 92 = .ok (.iload 4, 2) := by decide +kernel
theorem dX11_odds_94 : decode cX11_odds 94 = .ok (.iastore, 1) := by decide +kernel
theorem dX11_odds_95 : decode cX11_odds 95 = .ok (.bipush 20, 2) := by decide +kernel
theorem dX11_odds_97 : decode cX11_odds 97 = .ok (.istore 6, 2) := by decide +kernel
theorem dX11_odds_99 : decode cX11_odds 99 = .ok (.iload 5, 2) := by decide +kernel
theorem dX11_odds_101 : decode cX11_odds 101 = .ok (.istore 7, 2) := by decide +kernel
theorem dX11_odds_103 : decode cX11_odds 103 = .ok (.iload 7, 2) := by decide +kernel
theorem dX11_odds_105 : decode cX11_odds 105 = .ok (.ifCond .eq 21, 3) := by decide +kernel
theorem dX11_odds_108 : decode cX11_odds 108 = .ok (.iload 6, 2) := by decide +kernel
theorem dX11_odds_110 : decode cX11_odds 110 = .ok (.iload 7, 2) := by decide +kernel
theorem dX11_odds_112 : decode cX11_odds 112 = .ok (.irem, 1) := by decide +kernel
theorem dX11_odds_113 : decode cX11_odds 113 = .ok (.istore 8, 2) := by decide +kernel
theorem dX11_odds_115 : decode cX11_odds 115 = .ok (.iload 7, 2) := by decide +kernel
theorem dX11_odds_117 : decode cX11_odds 117 = .ok (.istore 6, 2) := by decide +kernel
theorem dX11_odds_119 : decode cX11_odds 119 = .ok (.iload 8, 2) := by decide +kernel
theorem dX11_odds_121 : decode cX11_odds 121 = .ok (.istore 7, 2) := by decide +kernel
theorem dX11_odds_123 : decode cX11_odds 123 = .ok (.goto (-20), 3) := by decide +kernel
theorem dX11_odds_126 : decode cX11_odds 126 = .ok (.iload_n 3, 1) := by decide +kernel
theorem dX11_odds_127 : decode cX11_odds 127 = .ok (.ifCond .ne 8, 3) := by decide +kernel
theorem dX11_odds_130 : decode cX11_odds 130 = .ok (.iload 5, 2) := by decide +kernel
theorem dX11_odds_132 : decode cX11_odds 132 = .ok (.goto 5, 3) := by decide +kernel
theorem dX11_odds_135 : decode cX11_odds 135 = .ok (.bipush 20, 2) := by decide +kernel
theorem dX11_odds_137 : decode cX11_odds 137 = .ok (.iload 6, 2) := by decide +kernel
theorem dX11_odds_139 : decode cX11_odds 139 = .ok (.idiv, 1) := by decide +kernel
theorem dX11_odds_140 : decode cX11_odds 140 = .ok (.ireturn, 1) := by decide +kernel
theorem dX11_seed_0 : decode cX11_seed 0 = .ok (.aload_n 0, 1) := by decide +kernel
theorem dX11_seed_1 : decode cX11_seed 1 = .ok (.iconst 3, 1) := by decide +kernel
theorem dX11_seed_2 : decode cX11_seed 2 = .ok (.iload_n 1, 1) := by decide +kernel
theorem dX11_seed_3 : decode cX11_seed 3 = .ok (.invokevirtual 168, 3) := by decide +kernel
theorem dX11_seed_6 : decode cX11_seed 6 = .ok (.ireturn, 1) := by decide +kernel
theorem dX11_ran_0 : decode cX11_ran 0 = .ok (.aload_n 0, 1) := by decide +kernel
theorem dX11_ran_1 : decode cX11_ran 1 = .ok (.getfield 291, 3) := by decide +kernel
theorem dX11_ran_4 : decode cX11_ran 4 = .ok (.bipush 40, 2) := by decide +kernel
theorem dX11_ran_6 : decode cX11_ran 6 = .ok (.if_icmp .ge 23, 3) := by decide +kernel
theorem dX11_ran_9 : decode cX11_ran 9 = .ok (.aload_n 0, 1) := by decide +kernel
theorem dX11_ran_10 : decode cX11_ran 10 = .ok (.getfield 48, 3) := by decide +kernel
theorem dX11_ran_13 : decode cX11_ran 13 = .ok (.aload_n 0, 1) := by decide +kernel
theorem dX11_ran_14 : decode cX11_ran 14 = .ok (.getfield 291, 3) := by decide +kernel
theorem dX11_ran_17 : decode cX11_ran 17 = .ok (.iload_n 1, 1) := by decide +kernel
theorem dX11_ran_18 : decode cX11_ran 18 = .ok (.iastore, 1) := by decide +kernel
theorem dX11_ran_19 : decode cX11_ran 19 = .ok (.aload_n 0, 1) := by decide +kernel
theorem dX11_ran_20 : decode cX11_ran 20 = .ok (.dup, 1) := by decide +kernel
theorem dX11_ran_21 : decode cX11_ran 21 = .ok (.getfield 291, 3) := by decide +kernel
theorem dX11_ran_24 : decode cX11_ran 24 = .ok (.iconst 1, 1) := by decide +kernel
theorem dX11_ran_25 : decode cX11_ran 25 = .ok (.iadd, 1) := by decide +kernel
theorem dX11_ran_26 : decode cX11_ran 26 = .ok (.putfield 291, 3) := by decide +kernel
theorem dX11_ran_29 : decode cX11_ran 29 = .ok (.return_, 1) := by decide +kernel
theorem dX11_dipsOf_0 : decode cX11_dipsOf 0 = .ok (.aload_n 0, 1) := by decide +kernel
theorem dX11_dipsOf_1 : decode cX11_dipsOf 1 = .ok (.getfield 294, 3) := by decide +kernel
theorem dX11_dipsOf_4 : decode cX11_dipsOf 4 = .ok (.iconst 1, 1) := by decide +kernel
theorem dX11_dipsOf_5 : decode cX11_dipsOf 5 = .ok (.invokestatic 220, 3) := by decide +kernel
theorem dX11_dipsOf_8 : decode cX11_dipsOf 8 = .ok (.istore_n 2, 1) := by decide +kernel
theorem dX11_dipsOf_9 : decode cX11_dipsOf 9 = .ok (.iload_n 2, 1) := by decide +kernel
theorem dX11_dipsOf_10 : decode cX11_dipsOf 10 = .ok (.ifCond .eq 9, 3) := by decide +kernel
theorem dX11_dipsOf_13 : decode cX11_dipsOf 13 = .ok (.aload_n 0, 1) := by decide +kernel
theorem dX11_dipsOf_14 : decode cX11_dipsOf 14 = .ok (.bipush 20, 2) := by decide +kernel
theorem dX11_dipsOf_16 : decode cX11_dipsOf 16 = .ok (.invokevirtual 297, 3) := by decide +kernel
theorem dX11_dipsOf_19 : decode cX11_dipsOf 19 = .ok (.aload_n 0, 1) := by decide +kernel
theorem dX11_dipsOf_20 : decode cX11_dipsOf 20 = .ok (.bipush 10, 2) := by decide +kernel
theorem dX11_dipsOf_22 : decode cX11_dipsOf 22 = .ok (.invokevirtual 297, 3) := by decide +kernel
theorem dX11_dipsOf_25 : decode cX11_dipsOf 25 = .ok (.iload_n 2, 1) := by decide +kernel
theorem dX11_dipsOf_26 : decode cX11_dipsOf 26 = .ok (.ifCond .eq 14, 3) := by decide +kernel
theorem dX11_dipsOf_29 : decode cX11_dipsOf 29 = .ok (.iload_n 1, 1) := by decide +kernel
theorem dX11_dipsOf_30 : decode cX11_dipsOf 30 = .ok (.aload_n 0, 1) := by decide +kernel
theorem dX11_dipsOf_31 : decode cX11_dipsOf 31 = .ok (.getfield 300, 3) := by decide +kernel
theorem dX11_dipsOf_34 : decode cX11_dipsOf 34 = .ok (.iadd, 1) := by decide +kernel
theorem dX11_dipsOf_35 : decode cX11_dipsOf 35 = .ok (.iconst 3, 1) := by decide +kernel
theorem dX11_dipsOf_36 : decode cX11_dipsOf 36 = .ok (.imul, 1) := by decide +kernel
theorem dX11_dipsOf_37 : decode cX11_dipsOf 37 = .ok (.goto 9, 3) := by decide +kernel
theorem dX11_dipsOf_40 : decode cX11_dipsOf 40 = .ok (.iload_n 1, 1) := by decide +kernel
theorem dX11_dipsOf_41 : decode cX11_dipsOf 41 = .ok (.aload_n 0, 1) := by decide +kernel
theorem dX11_dipsOf_42 : decode cX11_dipsOf 42 = .ok (.getfield 300, 3) := by decide +kernel
theorem dX11_dipsOf_45 : decode cX11_dipsOf 45 = .ok (.iadd, 1) := by decide +kernel
theorem dX11_dipsOf_46 : decode cX11_dipsOf 46 = .ok (.ireturn, 1) := by decide +kernel
theorem dX11_lidsOf_0 : decode cX11_lidsOf 0 = .ok (.iload_n 1, 1) := by decide +kernel
theorem dX11_lidsOf_1 : decode cX11_lidsOf 1 = .ok (.istore_n 2, 1) := by decide +kernel
theorem dX11_lidsOf_2 : decode cX11_lidsOf 2 = .ok (.aload_n 0, 1) := by decide +kernel
theorem dX11_lidsOf_3 : decode cX11_lidsOf 3 = .ok (.getfield 294, 3) := by decide +kernel
theorem dX11_lidsOf_6 : decode cX11_lidsOf 6 = .ok (.iconst 5, 1) := by decide +kernel
theorem dX11_lidsOf_7 : decode cX11_lidsOf 7 = .ok (.if_icmp .ne 12, 3) := by decide +kernel
theorem dX11_lidsOf_10 : decode cX11_lidsOf 10 = .ok (.aload_n 0, 1) := by decide +kernel
theorem dX11_lidsOf_11 : decode cX11_lidsOf 11 = .ok (.bipush 60, 2) := by decide +kernel
theorem dX11_lidsOf_13 : decode cX11_lidsOf 13 = .ok (.invokevirtual 297, 3) := by decide +kernel
theorem dX11_lidsOf_16 : decode cX11_lidsOf 16 = .ok (.iinc 2 1, 3) := by decide +kernel
theorem dX11_lidsOf_19 : decode cX11_lidsOf 19 = .ok (.aload_n 0, 1) := by decide +kernel
theorem dX11_lidsOf_20 : decode cX11_lidsOf 20 = .ok (.getfield 294, 3) := by decide +kernel
theorem dX11_lidsOf_23 : decode cX11_lidsOf 23 = .ok (.iconst 2, 1) := by decide +kernel
theorem dX11_lidsOf_24 : decode cX11_lidsOf 24 = .ok (.invokestatic 220, 3) := by decide +kernel
theorem dX11_lidsOf_27 : decode cX11_lidsOf 27 = .ok (.istore_n 3, 1) := by decide +kernel
theorem dX11_lidsOf_28 : decode cX11_lidsOf 28 = .ok (.iload_n 3, 1) := by decide +kernel
theorem dX11_lidsOf_29 : decode cX11_lidsOf 29 = .ok (.ifCond .eq 9, 3) := by decide +kernel
theorem dX11_lidsOf_32 : decode cX11_lidsOf 32 = .ok (.aload_n 0, 1) := by decide +kernel
theorem dX11_lidsOf_33 : decode cX11_lidsOf 33 = .ok (.bipush 30, 2) := by decide +kernel
theorem dX11_lidsOf_35 : decode cX11_lidsOf 35 = .ok (.invokevirtual 297, 3) := by decide +kernel
theorem dX11_lidsOf_38 : decode cX11_lidsOf 38 = .ok (.aload_n 0, 1) := by decide +kernel
theorem dX11_lidsOf_39 : decode cX11_lidsOf 39 = .ok (.bipush 11, 2) := by decide +kernel
theorem dX11_lidsOf_41 : decode cX11_lidsOf 41 = .ok (.invokevirtual 297, 3) := by decide +kernel
theorem dX11_lidsOf_44 : decode cX11_lidsOf 44 = .ok (.aload_n 0, 1) := by decide +kernel
theorem dX11_lidsOf_45 : decode cX11_lidsOf 45 = .ok (.iload_n 2, 1) := by decide +kernel
theorem dX11_lidsOf_46 : decode cX11_lidsOf 46 = .ok (.invokevirtual 303, 3) := by decide +kernel
theorem dX11_lidsOf_49 : decode cX11_lidsOf 49 = .ok (.iconst 2, 1) := by decide +kernel
theorem dX11_lidsOf_50 : decode cX11_lidsOf 50 = .ok (.imul, 1) := by decide +kernel
theorem dX11_lidsOf_51 : decode cX11_lidsOf 51 = .ok (.istore 4, 2) := by decide +kernel
theorem dX11_lidsOf_53 : decode cX11_lidsOf 53 = .ok (.iload_n 3, 1) := by decide +kernel
theorem dX11_lidsOf_54 : decode cX11_lidsOf 54 = .ok (.ifCond .eq 14, 3) := by decide +kernel
theorem dX11_lidsOf_57 : decode cX11_lidsOf 57 = .ok (.iload 4, 2) := by decide +kernel
theorem dX11_lidsOf_59 : decode cX11_lidsOf 59 = .ok (.aload_n 0, 1) := by decide +kernel
theorem dX11_lidsOf_60 : decode cX11_lidsOf 60 = .ok (.iconst 1, 1) := by decide +kernel
theorem dX11_lidsOf_61 : decode cX11_lidsOf 61 = .ok (.invokevirtual 306, 3) := by decide +kernel
theorem dX11_lidsOf_64 : decode cX11_lidsOf 64 = .ok (.isub, 1) := by decide +kernel
theorem dX11_lidsOf_65 : decode cX11_lidsOf 65 = .ok (.goto 5, 3) := by decide +kernel
theorem dX11_lidsOf_68 : decode cX11_lidsOf 68 = .ok (.iload 4, 2) := by decide +kernel
theorem dX11_lidsOf_70 : decode cX11_lidsOf 70 = .ok (.ireturn, 1) := by decide +kernel
theorem dX11_turnsOf_0 : decode cX11_turnsOf 0 = .ok (.aload_n 0, 1) := by decide +kernel
theorem dX11_turnsOf_1 : decode cX11_turnsOf 1 = .ok (.getfield 294, 3) := by decide +kernel
theorem dX11_turnsOf_4 : decode cX11_turnsOf 4 = .ok (.bipush 6, 2) := by decide +kernel
theorem dX11_turnsOf_6 : decode cX11_turnsOf 6 = .ok (.if_icmp .ne 9, 3) := by decide +kernel
theorem dX11_turnsOf_9 : decode cX11_turnsOf 9 = .ok (.aload_n 0, 1) := by decide +kernel
theorem dX11_turnsOf_10 : decode cX11_turnsOf 10 = .ok (.bipush 70, 2) := by decide +kernel
theorem dX11_turnsOf_12 : decode cX11_turnsOf 12 = .ok (.invokevirtual 297, 3) := by decide +kernel
theorem dX11_turnsOf_15 : decode cX11_turnsOf 15 = .ok (.aload_n 0, 1) := by decide +kernel
theorem dX11_turnsOf_16 : decode cX11_turnsOf 16 = .ok (.getfield 294, 3) := by decide +kernel
theorem dX11_turnsOf_19 : decode cX11_turnsOf 19 = .ok (.iconst 3, 1) := by decide +kernel
theorem dX11_turnsOf_20 : decode cX11_turnsOf 20 = .ok (.invokestatic 220, 3) := by decide +kernel
theorem dX11_turnsOf_23 : decode cX11_turnsOf 23 = .ok (.istore_n 2, 1) := by decide +kernel
theorem dX11_turnsOf_24 : decode cX11_turnsOf 24 = .ok (.iload_n 2, 1) := by decide +kernel
theorem dX11_turnsOf_25 : decode cX11_turnsOf 25 = .ok (.ifCond .eq 9, 3) := by decide +kernel
theorem dX11_turnsOf_28 : decode cX11_turnsOf 28 = .ok (.aload_n 0, 1) := by decide +kernel
theorem dX11_turnsOf_29 : decode cX11_turnsOf 29 = .ok (.bipush 40, 2) := by decide +kernel
theorem dX11_turnsOf_31 : decode cX11_turnsOf 31 = .ok (.invokevirtual 297, 3) := by decide +kernel
theorem dX11_turnsOf_34 : decode cX11_turnsOf 34 = .ok (.aload_n 0, 1) := by decide +kernel
theorem dX11_turnsOf_35 : decode cX11_turnsOf 35 = .ok (.bipush 12, 2) := by decide +kernel
theorem dX11_turnsOf_37 : decode cX11_turnsOf 37 = .ok (.invokevirtual 297, 3) := by decide +kernel
theorem dX11_turnsOf_40 : decode cX11_turnsOf 40 = .ok (.iload_n 2, 1) := by decide +kernel
theorem dX11_turnsOf_41 : decode cX11_turnsOf 41 = .ok (.ifCond .eq 13, 3) := by decide +kernel
theorem dX11_turnsOf_44 : decode cX11_turnsOf 44 = .ok (.iload_n 1, 1) := by decide +kernel
theorem dX11_turnsOf_45 : decode cX11_turnsOf 45 = .ok (.aload_n 0, 1) := by decide +kernel
theorem dX11_turnsOf_46 : decode cX11_turnsOf 46 = .ok (.getfield 309, 3) := by decide +kernel
theorem dX11_turnsOf_49 : decode cX11_turnsOf 49 = .ok (.isub, 1) := by decide +kernel
theorem dX11_turnsOf_50 : decode cX11_turnsOf 50 = .ok (.ineg, 1) := by decide +kernel
theorem dX11_turnsOf_51 : decode cX11_turnsOf 51 = .ok (.goto 9, 3) := by decide +kernel
theorem dX11_turnsOf_54 : decode cX11_turnsOf 54 = .ok (.iload_n 1, 1) := by decide +kernel
theorem dX11_turnsOf_55 : decode cX11_turnsOf 55 = .ok (.aload_n 0, 1) := by decide +kernel
theorem dX11_turnsOf_56 : decode cX11_turnsOf 56 = .ok (.getfield 309, 3) := by decide +kernel
theorem dX11_turnsOf_59 : decode cX11_turnsOf 59 = .ok (.isub, 1) := by decide +kernel
theorem dX11_turnsOf_60 : decode cX11_turnsOf 60 = .ok (.istore_n 3, 1) := by decide +kernel
theorem dX11_turnsOf_61 : decode cX11_turnsOf 61 = .ok (.aload_n 0, 1) := by decide +kernel
theorem dX11_turnsOf_62 : decode cX11_turnsOf 62 = .ok (.getfield 294, 3) := by decide +kernel
theorem dX11_turnsOf_65 : decode cX11_turnsOf 65 = .ok (.bipush 6, 2) := by decide +kernel
theorem dX11_turnsOf_67 : decode cX11_turnsOf 67 = .ok (.if_icmp .ne 12, 3) := by decide +kernel
theorem dX11_turnsOf_70 : decode cX11_turnsOf 70 = .ok (.iload_n 3, 1) := by decide +kernel
theorem dX11_turnsOf_71 : decode cX11_turnsOf 71 = .ok (.aload_n 0, 1) := by decide +kernel
theorem dX11_turnsOf_72 : decode cX11_turnsOf 72 = .ok (.getfield 300, 3) := by decide +kernel
theorem dX11_turnsOf_75 : decode cX11_turnsOf 75 = .ok (.ixor, 1) := by decide +kernel
theorem dX11_turnsOf_76 : decode cX11_turnsOf 76 = .ok (.goto 4, 3) := by decide +kernel
theorem dX11_turnsOf_79 : decode cX11_turnsOf 79 = .ok (.iload_n 3, 1) := by decide +kernel
theorem dX11_turnsOf_80 : decode cX11_turnsOf 80 = .ok (.ireturn, 1) := by decide +kernel
theorem dX11_plainTells_0 : decode cX11_plainTells 0 = .ok (.aload_n 0, 1) := by decide +kernel
theorem dX11_plainTells_1 : decode cX11_plainTells 1 = .ok (.bipush 13, 2) := by decide +kernel
theorem dX11_plainTells_3 : decode cX11_plainTells 3 = .ok (.invokevirtual 297, 3) := by decide +kernel
theorem dX11_plainTells_6 : decode cX11_plainTells 6 = .ok (.aload_n 0, 1) := by decide +kernel
theorem dX11_plainTells_7 : decode cX11_plainTells 7 = .ok (.iload_n 1, 1) := by decide +kernel
theorem dX11_plainTells_8 : decode cX11_plainTells 8 = .ok (.invokevirtual 312, 3) := by decide +kernel
theorem dX11_plainTells_11 : decode cX11_plainTells 11 = .ok (.istore_n 2, 1) := by decide +kernel
theorem dX11_plainTells_12 : decode cX11_plainTells 12 = .ok (.iload_n 2, 1) := by decide +kernel
theorem dX11_plainTells_13 : decode cX11_plainTells 13 = .ok (.aload_n 0, 1) := by decide +kernel
theorem dX11_plainTells_14 : decode cX11_plainTells 14 = .ok (.iload_n 1, 1) := by decide +kernel
theorem dX11_plainTells_15 : decode cX11_plainTells 15 = .ok (.invokevirtual 306, 3) := by decide +kernel
theorem dX11_plainTells_18 : decode cX11_plainTells 18 = .ok (.ixor, 1) := by decide +kernel
theorem dX11_plainTells_19 : decode cX11_plainTells 19 = .ok (.ireturn, 1) := by decide +kernel
theorem dX11_tellsOf_0 : decode cX11_tellsOf 0 = .ok (.aload_n 0, 1) := by decide +kernel
theorem dX11_tellsOf_1 : decode cX11_tellsOf 1 = .ok (.getfield 294, 3) := by decide +kernel
theorem dX11_tellsOf_4 : decode cX11_tellsOf 4 = .ok (.bipush 6, 2) := by decide +kernel
theorem dX11_tellsOf_6 : decode cX11_tellsOf 6 = .ok (.if_icmp .ne 23, 3) := by decide +kernel
theorem dX11_tellsOf_9 : decode cX11_tellsOf 9 = .ok (.aload_n 0, 1) := by decide +kernel
theorem dX11_tellsOf_10 : decode cX11_tellsOf 10 = .ok (.bipush 71, 2) := by decide +kernel
theorem dX11_tellsOf_12 : decode cX11_tellsOf 12 = .ok (.invokevirtual 297, 3) := by decide +kernel
theorem dX11_tellsOf_15 : decode cX11_tellsOf 15 = .ok (.aload_n 0, 1) := by decide +kernel
theorem dX11_tellsOf_16 : decode cX11_tellsOf 16 = .ok (.iload_n 1, 1) := by decide +kernel
theorem dX11_tellsOf_17 : decode cX11_tellsOf 17 = .ok (.invokevirtual 312, 3) := by decide +kernel
theorem dX11_tellsOf_20 : decode cX11_tellsOf 20 = .ok (.istore_n 2, 1) := by decide +kernel
theorem dX11_tellsOf_21 : decode cX11_tellsOf 21 = .ok (.iload_n 2, 1) := by decide +kernel
theorem dX11_tellsOf_22 : decode cX11_tellsOf 22 = .ok (.aload_n 0, 1) := by decide +kernel
theorem dX11_tellsOf_23 : decode cX11_tellsOf 23 = .ok (.iload_n 1, 1) := by decide +kernel
theorem dX11_tellsOf_24 : decode cX11_tellsOf 24 = .ok (.invokevirtual 315, 3) := by decide +kernel
theorem dX11_tellsOf_27 : decode cX11_tellsOf 27 = .ok (.isub, 1) := by decide +kernel
theorem dX11_tellsOf_28 : decode cX11_tellsOf 28 = .ok (.ireturn, 1) := by decide +kernel
theorem dX11_tellsOf_29 : decode cX11_tellsOf 29 = .ok (.aload_n 0, 1) := by decide +kernel
theorem dX11_tellsOf_30 : decode cX11_tellsOf 30 = .ok (.getfield 294, 3) := by decide +kernel
theorem dX11_tellsOf_33 : decode cX11_tellsOf 33 = .ok (.iconst 4, 1) := by decide +kernel
theorem dX11_tellsOf_34 : decode cX11_tellsOf 34 = .ok (.if_icmp .ne 23, 3) := by decide +kernel
theorem dX11_tellsOf_37 : decode cX11_tellsOf 37 = .ok (.aload_n 0, 1) := by decide +kernel
theorem dX11_tellsOf_38 : decode cX11_tellsOf 38 = .ok (.bipush 50, 2) := by decide +kernel
theorem dX11_tellsOf_40 : decode cX11_tellsOf 40 = .ok (.invokevirtual 297, 3) := by decide +kernel
theorem dX11_tellsOf_43 : decode cX11_tellsOf 43 = .ok (.aload_n 0, 1) := by decide +kernel
theorem dX11_tellsOf_44 : decode cX11_tellsOf 44 = .ok (.iload_n 1, 1) := by decide +kernel
theorem dX11_tellsOf_45 : decode cX11_tellsOf 45 = .ok (.invokevirtual 315, 3) := by decide +kernel
theorem dX11_tellsOf_48 : decode cX11_tellsOf 48 = .ok (.istore_n 2, 1) := by decide +kernel
theorem dX11_tellsOf_49 : decode cX11_tellsOf 49 = .ok (.iload_n 2, 1) := by decide +kernel
theorem dX11_tellsOf_50 : decode cX11_tellsOf 50 = .ok (.aload_n 0, 1) := by decide +kernel
theorem dX11_tellsOf_51 : decode cX11_tellsOf 51 = .ok (.iconst 2, 1) := by decide +kernel
theorem dX11_tellsOf_52 : decode cX11_tellsOf 52 = .ok (.invokevirtual 303, 3) := by decide +kernel
theorem dX11_tellsOf_55 : decode cX11_tellsOf 55 = .ok (.isub, 1) := by decide +kernel
theorem dX11_tellsOf_56 : decode cX11_tellsOf 56 = .ok (.ireturn, 1) := by decide +kernel
theorem dX11_tellsOf_57 : decode cX11_tellsOf 57 = .ok (.aload_n 0, 1) := by decide +kernel
theorem dX11_tellsOf_58 : decode cX11_tellsOf 58 = .ok (.iload_n 1, 1) := by decide +kernel
theorem dX11_tellsOf_59 : decode cX11_tellsOf 59 = .ok (.invokevirtual 315, 3) := by decide +kernel
theorem dX11_tellsOf_62 : decode cX11_tellsOf 62 = .ok (.ireturn, 1) := by decide +kernel
theorem dX11_voice_0 : decode cX11_voice 0 = .ok (.aload_n 0, 1) := by decide +kernel
theorem dX11_voice_1 : decode cX11_voice 1 = .ok (.iload_n 1, 1) := by decide +kernel
theorem dX11_voice_2 : decode cX11_voice 2 = .ok (.invokevirtual 205, 3) := by decide +kernel
theorem dX11_voice_5 : decode cX11_voice 5 = .ok (.ifCond .eq 12, 3) := by decide +kernel
theorem dX11_voice_8 : decode cX11_voice 8 = .ok (.iload_n 2, 1) := by decide +kernel
theorem dX11_voice_9 : decode cX11_voice 9 = .ok (.iconst 0, 1) := by decide +kernel
theorem dX11_voice_10 : decode cX11_voice 10 = .ok (.iconst 3, 1) := by decide +kernel
theorem dX11_voice_11 : decode cX11_voice 11 = .ok (.invokestatic 77, 3) := by decide +kernel
theorem dX11_voice_14 : decode cX11_voice 14 = .ok (.ifCond .ne 10, 3) := by decide +kernel
theorem dX11_voice_17 : decode cX11_voice 17 = .ok (.aload_n 0, 1) := by decide +kernel
theorem dX11_voice_18 : decode cX11_voice 18 = .ok (.ldc 81, 2) := by decide +kernel
theorem dX11_voice_20 : decode cX11_voice 20 = .ok (.invokevirtual 82, 3) := by decide +kernel
theorem dX11_voice_23 : decode cX11_voice 23 = .ok (.ireturn, 1) := by decide +kernel
theorem dX11_voice_24 : decode cX11_voice 24 = .ok (.aload_n 0, 1) := by decide +kernel
theorem dX11_voice_25 : decode cX11_voice 25 = .ok (.iconst 0, 1) := by decide +kernel
theorem dX11_voice_26 : decode cX11_voice 26 = .ok (.putfield 291, 3) := by decide +kernel
theorem dX11_voice_29 : decode cX11_voice 29 = .ok (.aload_n 0, 1) := by decide +kernel
theorem dX11_voice_30 : decode cX11_voice 30 = .ok (.aload_n 0, 1) := by decide +kernel
theorem dX11_voice_31 : decode cX11_voice 31 = .ok (.iload_n 1, 1) := by decide +kernel
theorem dX11_voice_32 : decode cX11_voice 32 = .ok (.iconst 0, 1) := by decide +kernel
theorem dX11_voice_33 : decode cX11_voice 33 = .ok (.invokevirtual 171, 3) := by decide +kernel
theorem dX11_voice_36 : decode cX11_voice 36 = .ok (.putfield 294, 3) := by decide +kernel
theorem dX11_voice_39 : decode cX11_voice 39 = .ok (.aload_n 0, 1) := by decide +kernel
theorem dX11_voice_40 : decode cX11_voice 40 = .ok (.iload_n 1, 1) := by decide +kernel
theorem dX11_voice_41 : decode cX11_voice 41 = .ok (.putfield 300, 3) := by decide +kernel
theorem dX11_voice_44 : decode cX11_voice 44 = .ok (.aload_n 0, 1) := by decide +kernel
theorem dX11_voice_45 : decode cX11_voice 45 = .ok (.aload_n 0, 1) := by decide +kernel
theorem dX11_voice_46 : decode cX11_voice 46 = .ok (.iload_n 1, 1) := by decide +kernel
theorem dX11_voice_47 : decode cX11_voice 47 = .ok (.iconst 1, 1) := by decide +kernel
theorem dX11_voice_48 : decode cX11_voice 48 = .ok (.invokevirtual 171, 3) := by decide +kernel
theorem dX11_voice_51 : decode cX11_voice 51 = .ok (.putfield 309, 3) := by decide +kernel
theorem dX11_voice_54 : decode cX11_voice 54 = .ok (.iload_n 2, 1) := by decide +kernel
theorem dX11_voice_55 : decode cX11_voice 55 = .ok (.ifCond .ne 11, 3) := by decide +kernel
theorem dX11_voice_58 : decode cX11_voice 58 = .ok (.aload_n 0, 1) := by decide +kernel
theorem dX11_voice_59 : decode cX11_voice 59 = .ok (.iload_n 3, 1) := by decide +kernel
theorem dX11_voice_60 : decode cX11_voice 60 = .ok (.invokevirtual 303, 3) := by decide +kernel
theorem dX11_voice_63 : decode cX11_voice 63 = .ok (.goto 34, 3) := by decide +kernel
theorem dX11_voice_66 : decode cX11_voice 66 = .ok (.iload_n 2, 1) := by decide +kernel
theorem dX11_voice_67 : decode cX11_voice 67 = .ok (.iconst 1, 1) := by decide +kernel
theorem dX11_voice_68 : decode cX11_voice 68 = .ok (.if_icmp .ne 11, 3) := by decide +kernel
theorem dX11_voice_71 : decode cX11_voice 71 = .ok (.aload_n 0, 1) := by decide +kernel
theorem dX11_voice_72 : decode cX11_voice 72 = .ok (.iload_n 3, 1) := by decide +kernel
theorem dX11_voice_73 : decode cX11_voice 73 = .ok (.invokevirtual 312, 3) := by decide +kernel
theorem dX11_voice_76 : decode cX11_voice 76 = .ok (.goto 21, 3) := by decide +kernel
theorem dX11_voice_79 : decode cX11_voice 79 = .ok (.iload_n 2, 1) := by decide +kernel
theorem dX11_voice_80 : decode cX11_voice 80 = .ok (.iconst 2, 1) := by decide +kernel
theorem dX11_voice_81 : decode cX11_voice 81 = .ok (.if_icmp .ne 11, 3) := by decide +kernel
theorem dX11_voice_84 : decode cX11_voice 84 = .ok (.aload_n 0, 1) := by decide +kernel
theorem dX11_voice_85 : decode cX11_voice 85 = .ok (.iload_n 3, 1) := by decide +kernel
theorem dX11_voice_86 : decode cX11_voice 86 = .ok (.invokevirtual 306, 3) := by decide +kernel
theorem dX11_voice_89 : decode cX11_voice 89 = .ok (.goto 8, 3) := by decide +kernel
theorem dX11_voice_92 : decode cX11_voice 92 = .ok (.aload_n 0, 1) := by decide +kernel
theorem dX11_voice_93 : decode cX11_voice 93 = .ok (.iload_n 3, 1) := by decide +kernel
theorem dX11_voice_94 : decode cX11_voice 94 = .ok (.invokevirtual 318, 3) := by decide +kernel
theorem dX11_voice_97 : decode cX11_voice 97 = .ok (.ireturn, 1) := by decide +kernel
theorem dX11_trace_0 : decode cX11_trace 0 = .ok (.iload_n 1, 1) := by decide +kernel
theorem dX11_trace_1 : decode cX11_trace 1 = .ok (.iconst 0, 1) := by decide +kernel
theorem dX11_trace_2 : decode cX11_trace 2 = .ok (.aload_n 0, 1) := by decide +kernel
theorem dX11_trace_3 : decode cX11_trace 3 = .ok (.getfield 291, 3) := by decide +kernel
theorem dX11_trace_6 : decode cX11_trace 6 = .ok (.iconst 1, 1) := by decide +kernel
theorem dX11_trace_7 : decode cX11_trace 7 = .ok (.isub, 1) := by decide +kernel
theorem dX11_trace_8 : decode cX11_trace 8 = .ok (.invokestatic 77, 3) := by decide +kernel
theorem dX11_trace_11 : decode cX11_trace 11 = .ok (.ifCond .eq 12, 3) := by decide +kernel
theorem dX11_trace_14 : decode cX11_trace 14 = .ok (.aload_n 0, 1) := by decide +kernel
theorem dX11_trace_15 : decode cX11_trace 15 = .ok (.getfield 48, 3) := by decide +kernel
theorem dX11_trace_18 : decode cX11_trace 18 = .ok (.iload_n 1, 1) := by decide +kernel
theorem dX11_trace_19 : decode cX11_trace 19 = .ok (.iaload, 1) := by decide +kernel
theorem dX11_trace_20 : decode cX11_trace 20 = .ok (.goto 10, 3) := by decide +kernel
theorem dX11_trace_23 : decode cX11_trace 23 = .ok (.aload_n 0, 1) := by decide +kernel
theorem dX11_trace_24 : decode cX11_trace 24 = .ok (.ldc_w 257, 3) := by decide +kernel
theorem dX11_trace_27 : decode cX11_trace 27 = .ok (.invokevirtual 82, 3) := by decide +kernel
theorem dX11_trace_30 : decode cX11_trace 30 = .ok (.ireturn, 1) := by decide +kernel
theorem dX11_isSheet_0 : decode cX11_isSheet 0 = .ok (.iload_n 0, 1) := by decide +kernel
theorem dX11_isSheet_1 : decode cX11_isSheet 1 = .ok (.iconst 0, 1) := by decide +kernel
theorem dX11_isSheet_2 : decode cX11_isSheet 2 = .ok (.iconst 3, 1) := by decide +kernel
theorem dX11_isSheet_3 : decode cX11_isSheet 3 = .ok (.invokestatic 77, 3) := by decide +kernel
theorem dX11_isSheet_6 : decode cX11_isSheet 6 = .ok (.ireturn, 1) := by decide +kernel
theorem dX11_sheet_0 : decode cX11_sheet 0 = .ok (.iload_n 1, 1) := by decide +kernel
theorem dX11_sheet_1 : decode cX11_sheet 1 = .ok (.invokestatic 285, 3) := by decide +kernel
theorem dX11_sheet_4 : decode cX11_sheet 4 = .ok (.ifCond .eq 25, 3) := by decide +kernel
theorem dX11_sheet_7 : decode cX11_sheet 7 = .ok (.iload_n 2, 1) := by decide +kernel
theorem dX11_sheet_8 : decode cX11_sheet 8 = .ok (.ifCond .eq 28, 3) := by decide +kernel
theorem dX11_sheet_11 : decode cX11_sheet 11 = .ok (.iload_n 2, 1) := by decide +kernel
theorem dX11_sheet_12 : decode cX11_sheet 12 = .ok (.bipush 8, 2) := by decide +kernel
theorem dX11_sheet_14 : decode cX11_sheet 14 = .ok (.if_icmp .eq 22, 3) := by decide +kernel
theorem dX11_sheet_17 : decode cX11_sheet 17 = .ok (.iload_n 2, 1) := by decide +kernel
theorem dX11_sheet_18 : decode cX11_sheet 18 = .ok (.bipush 16, 2) := by decide +kernel
theorem dX11_sheet_20 : decode cX11_sheet 20 = .ok (.if_icmp .eq 16, 3) := by decide +kernel
theorem dX11_sheet_23 : decode cX11_sheet 23 = .ok (.iload_n 2, 1) := by decide +kernel
theorem dX11_sheet_24 : decode cX11_sheet 24 = .ok (.bipush 32, 2) := by decide +kernel
theorem dX11_sheet_26 : decode cX11_sheet 26 = .ok (.if_icmp .eq 10, 3) := by decide +kernel
theorem dX11_sheet_29 : decode cX11_sheet 29 = .ok (.aload_n 0, 1) := by decide +kernel
theorem dX11_sheet_30 : decode cX11_sheet 30 = .ok (.ldc 81, 2) := by decide +kernel
theorem dX11_sheet_32 : decode cX11_sheet 32 = .ok (.invokevirtual 82, 3) := by decide +kernel
theorem dX11_sheet_35 : decode cX11_sheet 35 = .ok (.ireturn, 1) := by decide +kernel
theorem dX11_sheet_36 : decode cX11_sheet 36 = .ok (.iload_n 2, 1) := by decide +kernel
theorem dX11_sheet_37 : decode cX11_sheet 37 = .ok (.ifCond .eq 14, 3) := by decide +kernel
theorem dX11_sheet_40 : decode cX11_sheet 40 = .ok (.iload_n 3, 1) := by decide +kernel
theorem dX11_sheet_41 : decode cX11_sheet 41 = .ok (.ifCond .ge 10, 3) := by decide +kernel
theorem dX11_sheet_44 : decode cX11_sheet 44 = .ok (.aload_n 0, 1) := by decide +kernel
theorem dX11_sheet_45 : decode cX11_sheet 45 = .ok (.ldc 240, 2) := by decide +kernel
theorem dX11_sheet_47 : decode cX11_sheet 47 = .ok (.invokevirtual 82, 3) := by decide +kernel
theorem dX11_sheet_50 : decode cX11_sheet 50 = .ok (.ireturn, 1) := by decide +kernel
theorem dX11_sheet_51 : decode cX11_sheet 51 = .ok (.iload_n 2, 1) := by decide +kernel
theorem dX11_sheet_52 : decode cX11_sheet 52 = .ok (.ifCond .eq 16, 3) := by decide +kernel
theorem dX11_sheet_55 : decode cX11_sheet 55 = .ok (.iload_n 3, 1) := by decide +kernel
theorem dX11_sheet_56 : decode cX11_sheet 56 = .ok (.bipush 40, 2) := by decide +kernel
theorem dX11_sheet_58 : decode cX11_sheet 58 = .ok (.if_icmp .le 10, 3) := by decide +kernel
theorem dX11_sheet_61 : decode cX11_sheet 61 = .ok (.aload_n 0, 1) := by decide +kernel
theorem dX11_sheet_62 : decode cX11_sheet 62 = .ok (.ldc 81, 2) := by decide +kernel
theorem dX11_sheet_64 : decode cX11_sheet 64 = .ok (.invokevirtual 82, 3) := by decide +kernel
theorem dX11_sheet_67 : decode cX11_sheet 67 = .ok (.ireturn, 1) := by decide +kernel
theorem dX11_sheet_68 : decode cX11_sheet 68 = .ok (.aload_n 0, 1) := by decide +kernel
theorem dX11_sheet_69 : decode cX11_sheet 69 = .ok (.getfield 51, 3) := by decide +kernel
theorem dX11_sheet_72 : decode cX11_sheet 72 = .ok (.iload_n 1, 1) := by decide +kernel
theorem dX11_sheet_73 : decode cX11_sheet 73 = .ok (.iload_n 2, 1) := by decide +kernel
theorem dX11_sheet_74 : decode cX11_sheet 74 = .ok (.iastore, 1) := by decide +kernel
theorem dX11_sheet_75 : decode cX11_sheet 75 = .ok (.aload_n 0, 1) := by decide +kernel
theorem dX11_sheet_76 : decode cX11_sheet 76 = .ok (.getfield 54, 3) := by decide +kernel
theorem dX11_sheet_79 : decode cX11_sheet 79 = .ok (.iload_n 1, 1) := by decide +kernel
theorem dX11_sheet_80 : decode cX11_sheet 80 = .ok (.iload_n 2, 1) := by decide +kernel
theorem dX11_sheet_81 : decode cX11_sheet 81 = .ok (.ifCond .ne 7, 3) := by decide +kernel
theorem dX11_sheet_84 : decode cX11_sheet 84 = .ok (.iconst 0, 1) := by decide +kernel
theorem dX11_sheet_85 : decode cX11_sheet 85 = .ok (.goto 4, 3) := by decide +kernel
theorem dX11_sheet_88 : decode cX11_sheet 88 = .ok (.iload_n 3, 1) := by decide +kernel
theorem dX11_sheet_89 : decode cX11_sheet 89 = .ok (.iastore, 1) := by decide +kernel
theorem dX11_sheet_90 : decode cX11_sheet 90 = .ok (.iconst 0, 1) := by decide +kernel
theorem dX11_sheet_91 : decode cX11_sheet 91 = .ok (.istore 4, 2) := by decide +kernel
theorem dX11_sheet_93 : decode cX11_sheet 93 = .ok (.iload 4, 2) := by decide +kernel
theorem dX11_sheet_95 : decode cX11_sheet 95 = .ok (.bipush 40, 2) := by decide +kernel
theorem dX11_sheet_97 : decode cX11_sheet 97 = .ok (.if_icmp .ge 22, 3) := by decide +kernel
theorem dX11_sheet_100 : decode cX11_sheet 100 = .ok (.aload_n 0, 1) := by decide +kernel
theorem dX11_sheet_101 : decode cX11_sheet 101 = .ok (.getfield 57, 3) := by decide +kernel
theorem dX11_sheet_104 : decode cX11_sheet 104 = .ok (.bipush 40, 2) := by decide +kernel
theorem dX11_sheet_106 : decode cX11_sheet 106 = .ok (.iload_n 1, 1) := by decide +kernel
theorem dX11_sheet_107 : decode cX11_sheet 107 = .ok (.imul, 1) := by decide +kernel
theorem dX11_sheet_108 : decode cX11_sheet 108 = .ok (.iload 4, 2) := by decide +kernel
theorem dX11_sheet_110 : decode cX11_sheet 110 = .ok (.iadd, 1) := by decide +kernel
theorem dX11_sheet_111 : decode cX11_sheet 111 = .ok (.iconst 0, 1) := by decide +kernel
theorem dX11_sheet_112 : decode cX11_sheet 112 = .ok (.iastore, 1) := by decide +kernel
theorem dX11_sheet_113 : decode cX11_sheet 113 = .ok (.iinc 4 1, 3) := by decide +kernel
theorem dX11_sheet_116 : decode cX11_sheet 116 = .ok (.goto (-23), 3) := by decide +kernel
theorem dX11_sheet_119 : decode cX11_sheet 119 = .ok (.iconst 1, 1) := by decide +kernel
theorem dX11_sheet_120 : decode cX11_sheet 120 = .ok (.ireturn, 1) := by decide +kernel
theorem dX11_put_0 : decode cX11_put 0 = .ok (.iload_n 1, 1) := by decide +kernel
theorem dX11_put_1 : decode cX11_put 1 = .ok (.invokestatic 285, 3) := by decide +kernel
theorem dX11_put_4 : decode cX11_put 4 = .ok (.ifCond .ne 10, 3) := by decide +kernel
theorem dX11_put_7 : decode cX11_put 7 = .ok (.aload_n 0, 1) := by decide +kernel
theorem dX11_put_8 : decode cX11_put 8 = .ok (.ldc 81, 2) := by decide +kernel
theorem dX11_put_10 : decode cX11_put 10 = .ok (.invokevirtual 82, 3) := by decide +kernel
theorem dX11_put_13 : decode cX11_put 13 = .ok (.ireturn, 1) := by decide +kernel
theorem dX11_put_14 : decode cX11_put 14 = .ok (.aload_n 0, 1) := by decide +kernel
theorem dX11_put_15 : decode cX11_put 15 = .ok (.getfield 51, 3) := by decide +kernel
theorem dX11_put_18 : decode cX11_put 18 = .ok (.iload_n 1, 1) := by decide +kernel
theorem dX11_put_19 : decode cX11_put 19 = .ok (.iaload, 1) := by decide +kernel
theorem dX11_put_20 : decode cX11_put 20 = .ok (.ifCond .ne 11, 3) := by decide +kernel
theorem dX11_put_23 : decode cX11_put 23 = .ok (.aload_n 0, 1) := by decide +kernel
theorem dX11_put_24 : decode cX11_put 24 = .ok (.ldc_w 257, 3) := by decide +kernel
theorem dX11_put_27 : decode cX11_put 27 = .ok (.invokevirtual 82, 3) := by decide +kernel
theorem dX11_put_30 : decode cX11_put 30 = .ok (.ireturn, 1) := by decide +kernel
theorem dX11_put_31 : decode cX11_put 31 = .ok (.iload_n 2, 1) := by decide +kernel
theorem dX11_put_32 : decode cX11_put 32 = .ok (.iconst 0, 1) := by decide +kernel
theorem dX11_put_33 : decode cX11_put 33 = .ok (.aload_n 0, 1) := by decide +kernel
theorem dX11_put_34 : decode cX11_put 34 = .ok (.getfield 54, 3) := by decide +kernel
theorem dX11_put_37 : decode cX11_put 37 = .ok (.iload_n 1, 1) := by decide +kernel
theorem dX11_put_38 : decode cX11_put 38 = .ok (.iaload, 1) := by decide +kernel
theorem dX11_put_39 : decode cX11_put 39 = .ok (.iconst 1, 1) := by decide +kernel
theorem dX11_put_40 : decode cX11_put 40 = .ok (.isub, 1) := by decide +kernel
theorem dX11_put_41 : decode cX11_put 41 = .ok (.invokestatic 77, 3) := by decide +kernel
theorem dX11_put_44 : decode cX11_put 44 = .ok (.ifCond .ne 10, 3) := by decide +kernel
theorem dX11_put_47 : decode cX11_put 47 = .ok (.aload_n 0, 1) := by decide +kernel
