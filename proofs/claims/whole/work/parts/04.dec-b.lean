theorem dX5_init_0 : decode cX5_init 0 = .ok (.aload_n 0, 1) := by decide +kernel
theorem dX5_init_1 : decode cX5_init 1 = .ok (.invokespecial 1, 3) := by decide +kernel
theorem dX5_init_4 : decode cX5_init 4 = .ok (.aload_n 0, 1) := by decide +kernel
theorem dX5_init_5 : decode cX5_init 5 = .ok (.new 7, 3) := by decide +kernel
theorem dX5_init_8 : decode cX5_init 8 = .ok (.dup, 1) := by decide +kernel
theorem dX5_init_9 : decode cX5_init 9 = .ok (.bipush 6, 2) := by decide +kernel
theorem dX5_init_11 : decode cX5_init 11 = .ok (.bipush 40, 2) := by decide +kernel
theorem dX5_init_13 : decode cX5_init 13 = .ok (.invokespecial 11, 3) := by decide +kernel
theorem dX5_init_16 : decode cX5_init 16 = .ok (.putfield 14, 3) := by decide +kernel
theorem dX5_init_19 : decode cX5_init 19 = .ok (.aload_n 0, 1) := by decide +kernel
theorem dX5_init_20 : decode cX5_init 20 = .ok (.new 7, 3) := by decide +kernel
theorem dX5_init_23 : decode cX5_init 23 = .ok (.dup, 1) := by decide +kernel
theorem dX5_init_24 : decode cX5_init 24 = .ok (.iconst 4, 1) := by decide +kernel
theorem dX5_init_25 : decode cX5_init 25 = .ok (.bipush 80, 2) := by decide +kernel
theorem dX5_init_27 : decode cX5_init 27 = .ok (.invokespecial 11, 3) := by decide +kernel
theorem dX5_init_30 : decode cX5_init 30 = .ok (.putfield 18, 3) := by decide +kernel
theorem dX5_init_33 : decode cX5_init 33 = .ok (.aload_n 0, 1) := by decide +kernel
theorem dX5_init_34 : decode cX5_init 34 = .ok (.new 21, 3) := by decide +kernel
theorem dX5_init_37 : decode cX5_init 37 = .ok (.dup, 1) := by decide +kernel
theorem dX5_init_38 : decode cX5_init 38 = .ok (.invokespecial 23, 3) := by decide +kernel
theorem dX5_init_41 : decode cX5_init 41 = .ok (.putfield 24, 3) := by decide +kernel
theorem dX5_init_44 : decode cX5_init 44 = .ok (.aload_n 0, 1) := by decide +kernel
theorem dX5_init_45 : decode cX5_init 45 = .ok (.new 28, 3) := by decide +kernel
theorem dX5_init_48 : decode cX5_init 48 = .ok (.dup, 1) := by decide +kernel
theorem dX5_init_49 : decode cX5_init 49 = .ok (.invokespecial 30, 3) := by decide +kernel
theorem dX5_init_52 : decode cX5_init 52 = .ok (.putfield 31, 3) := by decide +kernel
theorem dX5_init_55 : decode cX5_init 55 = .ok (.aload_n 0, 1) := by decide +kernel
theorem dX5_init_56 : decode cX5_init 56 = .ok (.new 35, 3) := by decide +kernel
theorem dX5_init_59 : decode cX5_init 59 = .ok (.dup, 1) := by decide +kernel
theorem dX5_init_60 : decode cX5_init 60 = .ok (.aload_n 0, 1) := by decide +kernel
theorem dX5_init_61 : decode cX5_init 61 = .ok (.getfield 31, 3) := by decide +kernel
theorem dX5_init_64 : decode cX5_init 64 = .ok (.invokespecial 37, 3) := by decide +kernel
theorem dX5_init_67 : decode cX5_init 67 = .ok (.putfield 40, 3) := by decide +kernel
theorem dX5_init_70 : decode cX5_init 70 = .ok (.aload_n 0, 1) := by decide +kernel
theorem dX5_init_71 : decode cX5_init 71 = .ok (.new 44, 3) := by decide +kernel
theorem dX5_init_74 : decode cX5_init 74 = .ok (.dup, 1) := by decide +kernel
theorem dX5_init_75 : decode cX5_init 75 = .ok (.aload_n 0, 1) := by decide +kernel
theorem dX5_init_76 : decode cX5_init 76 = .ok (.getfield 31, 3) := by decide +kernel
theorem dX5_init_79 : decode cX5_init 79 = .ok (.invokespecial 46, 3) := by decide +kernel
theorem dX5_init_82 : decode cX5_init 82 = .ok (.putfield 47, 3) := by decide +kernel
theorem dX5_init_85 : decode cX5_init 85 = .ok (.aload_n 0, 1) := by decide +kernel
theorem dX5_init_86 : decode cX5_init 86 = .ok (.iconst 3, 1) := by decide +kernel
theorem dX5_init_87 : decode cX5_init 87 = .ok (.anewarray 28, 3) := by decide +kernel
theorem dX5_init_90 : decode cX5_init 90 = .ok (.putfield 51, 3) := by decide +kernel
theorem dX5_init_93 : decode cX5_init 93 = .ok (.aload_n 0, 1) := by decide +kernel
theorem dX5_init_94 : decode cX5_init 94 = .ok (.iconst 3, 1) := by decide +kernel
theorem dX5_init_95 : decode cX5_init 95 = .ok (.newarray .boolean, 2) := by decide +kernel
theorem dX5_init_97 : decode cX5_init 97 = .ok (.putfield 55, 3) := by decide +kernel
theorem dX5_init_100 : decode cX5_init 100 = .ok (.aload_n 0, 1) := by decide +kernel
theorem dX5_init_101 : decode cX5_init 101 = .ok (.bipush 6, 2) := by decide +kernel
theorem dX5_init_103 : decode cX5_init 103 = .ok (.newarray .int, 2) := by decide +kernel
theorem dX5_init_105 : decode cX5_init 105 = .ok (.putfield 59, 3) := by decide +kernel
theorem dX5_init_108 : decode cX5_init 108 = .ok (.aload_n 0, 1) := by decide +kernel
theorem dX5_init_109 : decode cX5_init 109 = .ok (.iconst 0, 1) := by decide +kernel
theorem dX5_init_110 : decode cX5_init 110 = .ok (.putfield 63, 3) := by decide +kernel
theorem dX5_init_113 : decode cX5_init 113 = .ok (.aload_n 0, 1) := by decide +kernel
theorem dX5_init_114 : decode cX5_init 114 = .ok (.iconst 0, 1) := by decide +kernel
theorem dX5_init_115 : decode cX5_init 115 = .ok (.putfield 67, 3) := by decide +kernel
theorem dX5_init_118 : decode cX5_init 118 = .ok (.return_, 1) := by decide +kernel
theorem dX5_row_0 : decode cX5_row 0 = .ok (.aload_n 0, 1) := by decide +kernel
theorem dX5_row_1 : decode cX5_row 1 = .ok (.aload_n 0, 1) := by decide +kernel
theorem dX5_row_2 : decode cX5_row 2 = .ok (.getfield 14, 3) := by decide +kernel
theorem dX5_row_5 : decode cX5_row 5 = .ok (.iload_n 1, 1) := by decide +kernel
theorem dX5_row_6 : decode cX5_row 6 = .ok (.iload_n 2, 1) := by decide +kernel
theorem dX5_row_7 : decode cX5_row 7 = .ok (.iconst 0, 1) := by decide +kernel
theorem dX5_row_8 : decode cX5_row 8 = .ok (.invokevirtual 70, 3) := by decide +kernel
theorem dX5_row_11 : decode cX5_row 11 = .ok (.ireturn, 1) := by decide +kernel
theorem dX5_lay_0 : decode cX5_lay 0 = .ok (.aload_n 0, 1) := by decide +kernel
theorem dX5_lay_1 : decode cX5_lay 1 = .ok (.getfield 14, 3) := by decide +kernel
theorem dX5_lay_4 : decode cX5_lay 4 = .ok (.iload_n 1, 1) := by decide +kernel
theorem dX5_lay_5 : decode cX5_lay 5 = .ok (.invokevirtual 74, 3) := by decide +kernel
theorem dX5_lay_8 : decode cX5_lay 8 = .ok (.ifCond .ne 5, 3) := by decide +kernel
theorem dX5_lay_11 : decode cX5_lay 11 = .ok (.iconst (-1), 1) := by decide +kernel
theorem dX5_lay_12 : decode cX5_lay 12 = .ok (.ireturn, 1) := by decide +kernel
theorem dX5_lay_13 : decode cX5_lay 13 = .ok (.aload_n 0, 1) := by decide +kernel
theorem dX5_lay_14 : decode cX5_lay 14 = .ok (.aload_n 0, 1) := by decide +kernel
theorem dX5_lay_15 : decode cX5_lay 15 = .ok (.getfield 14, 3) := by decide +kernel
theorem dX5_lay_18 : decode cX5_lay 18 = .ok (.iload_n 1, 1) := by decide +kernel
theorem dX5_lay_19 : decode cX5_lay 19 = .ok (.iload_n 2, 1) := by decide +kernel
theorem dX5_lay_20 : decode cX5_lay 20 = .ok (.invokevirtual 78, 3) := by decide +kernel
theorem dX5_lay_23 : decode cX5_lay 23 = .ok (.istore 4, 2) := by decide +kernel
theorem dX5_lay_25 : decode cX5_lay 25 = .ok (.iload 4, 2) := by decide +kernel
theorem dX5_lay_27 : decode cX5_lay 27 = .ok (.ifCond .eq 6, 3) := by decide +kernel
theorem dX5_lay_30 : decode cX5_lay 30 = .ok (.iload 4, 2) := by decide +kernel
theorem dX5_lay_32 : decode cX5_lay 32 = .ok (.ireturn, 1) := by decide +kernel
theorem dX5_lay_33 : decode cX5_lay 33 = .ok (.aload_n 0, 1) := by decide +kernel
theorem dX5_lay_34 : decode cX5_lay 34 = .ok (.getfield 14, 3) := by decide +kernel
theorem dX5_lay_37 : decode cX5_lay 37 = .ok (.iload_n 1, 1) := by decide +kernel
theorem dX5_lay_38 : decode cX5_lay 38 = .ok (.iload_n 2, 1) := by decide +kernel
theorem dX5_lay_39 : decode cX5_lay 39 = .ok (.invokevirtual 82, 3) := by decide +kernel
theorem dX5_lay_42 : decode cX5_lay 42 = .ok (.istore 5, 2) := by decide +kernel
theorem dX5_lay_44 : decode cX5_lay 44 = .ok (.aload_n 0, 1) := by decide +kernel
theorem dX5_lay_45 : decode cX5_lay 45 = .ok (.getfield 14, 3) := by decide +kernel
theorem dX5_lay_48 : decode cX5_lay 48 = .ok (.iload_n 1, 1) := by decide +kernel
theorem dX5_lay_49 : decode cX5_lay 49 = .ok (.iload_n 2, 1) := by decide +kernel
theorem dX5_lay_50 : decode cX5_lay 50 = .ok (.iload_n 3, 1) := by decide +kernel
theorem dX5_lay_51 : decode cX5_lay 51 = .ok (.invokevirtual 86, 3) := by decide +kernel
theorem dX5_lay_54 : decode cX5_lay 54 = .ok (.aload_n 0, 1) := by decide +kernel
theorem dX5_lay_55 : decode cX5_lay 55 = .ok (.iconst 1, 1) := by decide +kernel
theorem dX5_lay_56 : decode cX5_lay 56 = .ok (.iload 5, 2) := by decide +kernel
theorem dX5_lay_58 : decode cX5_lay 58 = .ok (.invokevirtual 90, 3) := by decide +kernel
theorem dX5_lay_61 : decode cX5_lay 61 = .ok (.ireturn, 1) := by decide +kernel
theorem dX5_at_0 : decode cX5_at 0 = .ok (.aload_n 0, 1) := by decide +kernel
theorem dX5_at_1 : decode cX5_at 1 = .ok (.getfield 14, 3) := by decide +kernel
theorem dX5_at_4 : decode cX5_at 4 = .ok (.iload_n 1, 1) := by decide +kernel
theorem dX5_at_5 : decode cX5_at 5 = .ok (.invokevirtual 74, 3) := by decide +kernel
theorem dX5_at_8 : decode cX5_at 8 = .ok (.ifCond .ne 5, 3) := by decide +kernel
theorem dX5_at_11 : decode cX5_at 11 = .ok (.iconst (-1), 1) := by decide +kernel
theorem dX5_at_12 : decode cX5_at 12 = .ok (.ireturn, 1) := by decide +kernel
theorem dX5_at_13 : decode cX5_at 13 = .ok (.aload_n 0, 1) := by decide +kernel
theorem dX5_at_14 : decode cX5_at 14 = .ok (.aload_n 0, 1) := by decide +kernel
theorem dX5_at_15 : decode cX5_at 15 = .ok (.getfield 14, 3) := by decide +kernel
theorem dX5_at_18 : decode cX5_at 18 = .ok (.iload_n 1, 1) := by decide +kernel
theorem dX5_at_19 : decode cX5_at 19 = .ok (.iload_n 2, 1) := by decide +kernel
theorem dX5_at_20 : decode cX5_at 20 = .ok (.invokevirtual 78, 3) := by decide +kernel
theorem dX5_at_23 : decode cX5_at 23 = .ok (.istore_n 3, 1) := by decide +kernel
theorem dX5_at_24 : decode cX5_at 24 = .ok (.iload_n 3, 1) := by decide +kernel
theorem dX5_at_25 : decode cX5_at 25 = .ok (.ifCond .eq 7, 3) := by decide +kernel
theorem dX5_at_28 : decode cX5_at 28 = .ok (.iload_n 3, 1) := by decide +kernel
theorem dX5_at_29 : decode cX5_at 29 = .ok (.goto 17, 3) := by decide +kernel
theorem dX5_at_32 : decode cX5_at 32 = .ok (.aload_n 0, 1) := by decide +kernel
theorem dX5_at_33 : decode cX5_at 33 = .ok (.iconst 1, 1) := by decide +kernel
theorem dX5_at_34 : decode cX5_at 34 = .ok (.aload_n 0, 1) := by decide +kernel
theorem dX5_at_35 : decode cX5_at 35 = .ok (.getfield 14, 3) := by decide +kernel
theorem dX5_at_38 : decode cX5_at 38 = .ok (.iload_n 1, 1) := by decide +kernel
theorem dX5_at_39 : decode cX5_at 39 = .ok (.iload_n 2, 1) := by decide +kernel
theorem dX5_at_40 : decode cX5_at 40 = .ok (.invokevirtual 82, 3) := by decide +kernel
theorem dX5_at_43 : decode cX5_at 43 = .ok (.invokevirtual 90, 3) := by decide +kernel
theorem dX5_at_46 : decode cX5_at 46 = .ok (.ireturn, 1) := by decide +kernel
theorem dX5_tear_0 : decode cX5_tear 0 = .ok (.aload_n 0, 1) := by decide +kernel
theorem dX5_tear_1 : decode cX5_tear 1 = .ok (.getfield 14, 3) := by decide +kernel
theorem dX5_tear_4 : decode cX5_tear 4 = .ok (.iload_n 1, 1) := by decide +kernel
theorem dX5_tear_5 : decode cX5_tear 5 = .ok (.invokevirtual 74, 3) := by decide +kernel
theorem dX5_tear_8 : decode cX5_tear 8 = .ok (.ifCond .ne 5, 3) := by decide +kernel
theorem dX5_tear_11 : decode cX5_tear 11 = .ok (.iconst (-1), 1) := by decide +kernel
theorem dX5_tear_12 : decode cX5_tear 12 = .ok (.ireturn, 1) := by decide +kernel
theorem dX5_tear_13 : decode cX5_tear 13 = .ok (.aload_n 0, 1) := by decide +kernel
theorem dX5_tear_14 : decode cX5_tear 14 = .ok (.getfield 14, 3) := by decide +kernel
theorem dX5_tear_17 : decode cX5_tear 17 = .ok (.iload_n 1, 1) := by decide +kernel
theorem dX5_tear_18 : decode cX5_tear 18 = .ok (.invokevirtual 93, 3) := by decide +kernel
theorem dX5_tear_21 : decode cX5_tear 21 = .ok (.ifCond .ne 9, 3) := by decide +kernel
theorem dX5_tear_24 : decode cX5_tear 24 = .ok (.aload_n 0, 1) := by decide +kernel
theorem dX5_tear_25 : decode cX5_tear 25 = .ok (.iconst 1, 1) := by decide +kernel
theorem dX5_tear_26 : decode cX5_tear 26 = .ok (.invokevirtual 96, 3) := by decide +kernel
theorem dX5_tear_29 : decode cX5_tear 29 = .ok (.ireturn, 1) := by decide +kernel
theorem dX5_tear_30 : decode cX5_tear 30 = .ok (.aload_n 0, 1) := by decide +kernel
theorem dX5_tear_31 : decode cX5_tear 31 = .ok (.getfield 14, 3) := by decide +kernel
theorem dX5_tear_34 : decode cX5_tear 34 = .ok (.iload_n 1, 1) := by decide +kernel
theorem dX5_tear_35 : decode cX5_tear 35 = .ok (.invokevirtual 100, 3) := by decide +kernel
theorem dX5_tear_38 : decode cX5_tear 38 = .ok (.iconst 1, 1) := by decide +kernel
theorem dX5_tear_39 : decode cX5_tear 39 = .ok (.ireturn, 1) := by decide +kernel
theorem dX5_copy_0 : decode cX5_copy 0 = .ok (.aload_n 0, 1) := by decide +kernel
theorem dX5_copy_1 : decode cX5_copy 1 = .ok (.getfield 14, 3) := by decide +kernel
theorem dX5_copy_4 : decode cX5_copy 4 = .ok (.iload_n 1, 1) := by decide +kernel
theorem dX5_copy_5 : decode cX5_copy 5 = .ok (.invokevirtual 74, 3) := by decide +kernel
theorem dX5_copy_8 : decode cX5_copy 8 = .ok (.ifCond .eq 14, 3) := by decide +kernel
theorem dX5_copy_11 : decode cX5_copy 11 = .ok (.aload_n 0, 1) := by decide +kernel
theorem dX5_copy_12 : decode cX5_copy 12 = .ok (.getfield 14, 3) := by decide +kernel
theorem dX5_copy_15 : decode cX5_copy 15 = .ok (.iload_n 3, 1) := by decide +kernel
theorem dX5_copy_16 : decode cX5_copy 16 = .ok (.invokevirtual 74, 3) := by decide +kernel
theorem dX5_copy_19 : decode cX5_copy 19 = .ok (.ifCond .ne 5, 3) := by decide +kernel
theorem dX5_copy_22 : decode cX5_copy 22 = .ok (.iconst (-1), 1) := by decide +kernel
theorem dX5_copy_23 : decode cX5_copy 23 = .ok (.ireturn, 1) := by decide +kernel
theorem dX5_copy_24 : decode cX5_copy 24 = .ok (.iload 5, 2) := by decide +kernel
theorem dX5_copy_26 : decode cX5_copy 26 = .ok (.ifCond .ge 9, 3) := by decide +kernel
theorem dX5_copy_29 : decode cX5_copy 29 = .ok (.aload_n 0, 1) := by decide +kernel
theorem dX5_copy_30 : decode cX5_copy 30 = .ok (.iconst 5, 1) := by decide +kernel
theorem dX5_copy_31 : decode cX5_copy 31 = .ok (.invokevirtual 96, 3) := by decide +kernel
theorem dX5_copy_34 : decode cX5_copy 34 = .ok (.ireturn, 1) := by decide +kernel
theorem dX5_copy_35 : decode cX5_copy 35 = .ok (.aload_n 0, 1) := by decide +kernel
theorem dX5_copy_36 : decode cX5_copy 36 = .ok (.getfield 14, 3) := by decide +kernel
theorem dX5_copy_39 : decode cX5_copy 39 = .ok (.iload_n 1, 1) := by decide +kernel
theorem dX5_copy_40 : decode cX5_copy 40 = .ok (.invokevirtual 93, 3) := by decide +kernel
theorem dX5_copy_43 : decode cX5_copy 43 = .ok (.ifCond .eq 14, 3) := by decide +kernel
theorem dX5_copy_46 : decode cX5_copy 46 = .ok (.aload_n 0, 1) := by decide +kernel
theorem dX5_copy_47 : decode cX5_copy 47 = .ok (.getfield 14, 3) := by decide +kernel
theorem dX5_copy_50 : decode cX5_copy 50 = .ok (.iload_n 3, 1) := by decide +kernel
theorem dX5_copy_51 : decode cX5_copy 51 = .ok (.invokevirtual 93, 3) := by decide +kernel
theorem dX5_copy_54 : decode cX5_copy 54 = .ok (.ifCond .ne 9, 3) := by decide +kernel
theorem dX5_copy_57 : decode cX5_copy 57 = .ok (.aload_n 0, 1) := by decide +kernel
theorem dX5_copy_58 : decode cX5_copy 58 = .ok (.iconst 1, 1) := by decide +kernel
theorem dX5_copy_59 : decode cX5_copy 59 = .ok (.invokevirtual 96, 3) := by decide +kernel
theorem dX5_copy_62 : decode cX5_copy 62 = .ok (.ireturn, 1) := by decide +kernel
theorem dX5_copy_63 : decode cX5_copy 63 = .ok (.aload_n 0, 1) := by decide +kernel
theorem dX5_copy_64 : decode cX5_copy 64 = .ok (.getfield 14, 3) := by decide +kernel
theorem dX5_copy_67 : decode cX5_copy 67 = .ok (.iload_n 1, 1) := by decide +kernel
theorem dX5_copy_68 : decode cX5_copy 68 = .ok (.iload_n 2, 1) := by decide +kernel
theorem dX5_copy_69 : decode cX5_copy 69 = .ok (.iload 5, 2) := by decide +kernel
theorem dX5_copy_71 : decode cX5_copy 71 = .ok (.invokevirtual 104, 3) := by decide +kernel
theorem dX5_copy_74 : decode cX5_copy 74 = .ok (.ifCond .eq 18, 3) := by decide +kernel
theorem dX5_copy_77 : decode cX5_copy 77 = .ok (.aload_n 0, 1) := by decide +kernel
theorem dX5_copy_78 : decode cX5_copy 78 = .ok (.getfield 14, 3) := by decide +kernel
theorem dX5_copy_81 : decode cX5_copy 81 = .ok (.iload_n 3, 1) := by decide +kernel
theorem dX5_copy_82 : decode cX5_copy 82 = .ok (.iload 4, 2) := by decide +kernel
theorem dX5_copy_84 : decode cX5_copy 84 = .ok (.iload 5, 2) := by decide +kernel
theorem dX5_copy_86 : decode cX5_copy 86 = .ok (.invokevirtual 104, 3) := by decide +kernel
theorem dX5_copy_89 : decode cX5_copy 89 = .ok (.ifCond .ne 9, 3) := by decide +kernel
theorem dX5_copy_92 : decode cX5_copy 92 = .ok (.aload_n 0, 1) := by decide +kernel
theorem dX5_copy_93 : decode cX5_copy 93 = .ok (.iconst 2, 1) := by decide +kernel
theorem dX5_copy_94 : decode cX5_copy 94 = .ok (.invokevirtual 96, 3) := by decide +kernel
theorem dX5_copy_97 : decode cX5_copy 97 = .ok (.ireturn, 1) := by decide +kernel
theorem dX5_copy_98 : decode cX5_copy 98 = .ok (.aload_n 0, 1) := by decide +kernel
theorem dX5_copy_99 : decode cX5_copy 99 = .ok (.getfield 14, 3) := by decide +kernel
theorem dX5_copy_102 : decode cX5_copy 102 = .ok (.iload_n 1, 1) := by decide +kernel
theorem dX5_copy_103 : decode cX5_copy 103 = .ok (.iload_n 2, 1) := by decide +kernel
theorem dX5_copy_104 : decode cX5_copy 104 = .ok (.iload_n 3, 1) := by decide +kernel
theorem dX5_copy_105 : decode cX5_copy 105 = .ok (.iload 4, 2) := by decide +kernel
theorem dX5_copy_107 : decode cX5_copy 107 = .ok (.iload 5, 2) := by decide +kernel
theorem dX5_copy_109 : decode cX5_copy 109 = .ok (.invokevirtual 108, 3) := by decide +kernel
theorem dX5_copy_112 : decode cX5_copy 112 = .ok (.iconst 1, 1) := by decide +kernel
theorem dX5_copy_113 : decode cX5_copy 113 = .ok (.ireturn, 1) := by decide +kernel
theorem dX5_mean_0 : decode cX5_mean 0 = .ok (.aload_n 0, 1) := by decide +kernel
theorem dX5_mean_1 : decode cX5_mean 1 = .ok (.getfield 14, 3) := by decide +kernel
theorem dX5_mean_4 : decode cX5_mean 4 = .ok (.iload_n 1, 1) := by decide +kernel
theorem dX5_mean_5 : decode cX5_mean 5 = .ok (.invokevirtual 74, 3) := by decide +kernel
theorem dX5_mean_8 : decode cX5_mean 8 = .ok (.ifCond .ne 5, 3) := by decide +kernel
theorem dX5_mean_11 : decode cX5_mean 11 = .ok (.iconst (-1), 1) := by decide +kernel
theorem dX5_mean_12 : decode cX5_mean 12 = .ok (.ireturn, 1) := by decide +kernel
theorem dX5_mean_13 : decode cX5_mean 13 = .ok (.aload_n 0, 1) := by decide +kernel
theorem dX5_mean_14 : decode cX5_mean 14 = .ok (.getfield 14, 3) := by decide +kernel
theorem dX5_mean_17 : decode cX5_mean 17 = .ok (.iload_n 1, 1) := by decide +kernel
theorem dX5_mean_18 : decode cX5_mean 18 = .ok (.invokevirtual 93, 3) := by decide +kernel
theorem dX5_mean_21 : decode cX5_mean 21 = .ok (.ifCond .ne 9, 3) := by decide +kernel
theorem dX5_mean_24 : decode cX5_mean 24 = .ok (.aload_n 0, 1) := by decide +kernel
theorem dX5_mean_25 : decode cX5_mean 25 = .ok (.iconst 1, 1) := by decide +kernel
theorem dX5_mean_26 : decode cX5_mean 26 = .ok (.invokevirtual 96, 3) := by decide +kernel
theorem dX5_mean_29 : decode cX5_mean 29 = .ok (.ireturn, 1) := by decide +kernel
theorem dX5_mean_30 : decode cX5_mean 30 = .ok (.aload_n 0, 1) := by decide +kernel
theorem dX5_mean_31 : decode cX5_mean 31 = .ok (.getfield 14, 3) := by decide +kernel
theorem dX5_mean_34 : decode cX5_mean 34 = .ok (.iload_n 1, 1) := by decide +kernel
theorem dX5_mean_35 : decode cX5_mean 35 = .ok (.invokevirtual 112, 3) := by decide +kernel
theorem dX5_mean_38 : decode cX5_mean 38 = .ok (.istore_n 2, 1) := by decide +kernel
theorem dX5_mean_39 : decode cX5_mean 39 = .ok (.iload_n 2, 1) := by decide +kernel
theorem dX5_mean_40 : decode cX5_mean 40 = .ok (.ifCond .gt 9, 3) := by decide +kernel
theorem dX5_mean_43 : decode cX5_mean 43 = .ok (.aload_n 0, 1) := by decide +kernel
theorem dX5_mean_44 : decode cX5_mean 44 = .ok (.iconst 4, 1) := by decide +kernel
theorem dX5_mean_45 : decode cX5_mean 45 = .ok (.invokevirtual 96, 3) := by decide +kernel
theorem dX5_mean_48 : decode cX5_mean 48 = .ok (.ireturn, 1) := by decide +kernel
theorem dX5_mean_49 : decode cX5_mean 49 = .ok (.aload_n 0, 1) := by decide +kernel
theorem dX5_mean_50 : decode cX5_mean 50 = .ok (.iconst 1, 1) := by decide +kernel
theorem dX5_mean_51 : decode cX5_mean 51 = .ok (.aload_n 0, 1) := by decide +kernel
theorem dX5_mean_52 : decode cX5_mean 52 = .ok (.getfield 14, 3) := by decide +kernel
theorem dX5_mean_55 : decode cX5_mean 55 = .ok (.iload_n 1, 1) := by decide +kernel
theorem dX5_mean_56 : decode cX5_mean 56 = .ok (.invokevirtual 115, 3) := by decide +kernel
theorem dX5_mean_59 : decode cX5_mean 59 = .ok (.iload_n 2, 1) := by decide +kernel
theorem dX5_mean_60 : decode cX5_mean 60 = .ok (.i2l, 1) := by decide +kernel
theorem dX5_mean_61 : decode cX5_mean 61 = .ok (.ldiv, 1) := by decide +kernel
theorem dX5_mean_62 : decode cX5_mean 62 = .ok (.l2i, 1) := by decide +kernel
theorem dX5_mean_63 : decode cX5_mean 63 = .ok (.invokevirtual 90, 3) := by decide +kernel
theorem dX5_mean_66 : decode cX5_mean 66 = .ok (.ireturn, 1) := by decide +kernel
theorem dX5_text_0 : decode cX5_text 0 = .ok (.aload_n 0, 1) := by decide +kernel
theorem dX5_text_1 : decode cX5_text 1 = .ok (.aload_n 0, 1) := by decide +kernel
theorem dX5_text_2 : decode cX5_text 2 = .ok (.getfield 18, 3) := by decide +kernel
theorem dX5_text_5 : decode cX5_text 5 = .ok (.iload_n 1, 1) := by decide +kernel
theorem dX5_text_6 : decode cX5_text 6 = .ok (.iload_n 2, 1) := by decide +kernel
theorem dX5_text_7 : decode cX5_text 7 = .ok (.bipush 32, 2) := by decide +kernel
theorem dX5_text_9 : decode cX5_text 9 = .ok (.invokevirtual 70, 3) := by decide +kernel
theorem dX5_text_12 : decode cX5_text 12 = .ok (.ireturn, 1) := by decide +kernel
theorem dX5_put_0 : decode cX5_put 0 = .ok (.aload_n 0, 1) := by decide +kernel
theorem dX5_put_1 : decode cX5_put 1 = .ok (.getfield 18, 3) := by decide +kernel
theorem dX5_put_4 : decode cX5_put 4 = .ok (.iload_n 1, 1) := by decide +kernel
theorem dX5_put_5 : decode cX5_put 5 = .ok (.invokevirtual 74, 3) := by decide +kernel
theorem dX5_put_8 : decode cX5_put 8 = .ok (.ifCond .ne 5, 3) := by decide +kernel
theorem dX5_put_11 : decode cX5_put 11 = .ok (.iconst (-1), 1) := by decide +kernel
theorem dX5_put_12 : decode cX5_put 12 = .ok (.ireturn, 1) := by decide +kernel
theorem dX5_put_13 : decode cX5_put 13 = .ok (.aload_n 0, 1) := by decide +kernel
theorem dX5_put_14 : decode cX5_put 14 = .ok (.aload_n 0, 1) := by decide +kernel
theorem dX5_put_15 : decode cX5_put 15 = .ok (.getfield 18, 3) := by decide +kernel
theorem dX5_put_18 : decode cX5_put 18 = .ok (.iload_n 1, 1) := by decide +kernel
theorem dX5_put_19 : decode cX5_put 19 = .ok (.iload_n 2, 1) := by decide +kernel
theorem dX5_put_20 : decode cX5_put 20 = .ok (.invokevirtual 78, 3) := by decide +kernel
theorem dX5_put_23 : decode cX5_put 23 = .ok (.istore 4, 2) := by decide +kernel
theorem dX5_put_25 : decode cX5_put 25 = .ok (.iload 4, 2) := by decide +kernel
theorem dX5_put_27 : decode cX5_put 27 = .ok (.ifCond .eq 6, 3) := by decide +kernel
theorem dX5_put_30 : decode cX5_put 30 = .ok (.iload 4, 2) := by decide +kernel
theorem dX5_put_32 : decode cX5_put 32 = .ok (.ireturn, 1) := by decide +kernel
theorem dX5_put_33 : decode cX5_put 33 = .ok (.aload_n 0, 1) := by decide +kernel
theorem dX5_put_34 : decode cX5_put 34 = .ok (.getfield 18, 3) := by decide +kernel
theorem dX5_put_37 : decode cX5_put 37 = .ok (.iload_n 1, 1) := by decide +kernel
theorem dX5_put_38 : decode cX5_put 38 = .ok (.iload_n 2, 1) := by decide +kernel
theorem dX5_put_39 : decode cX5_put 39 = .ok (.invokevirtual 82, 3) := by decide +kernel
theorem dX5_put_42 : decode cX5_put 42 = .ok (.istore 5, 2) := by decide +kernel
theorem dX5_put_44 : decode cX5_put 44 = .ok (.aload_n 0, 1) := by decide +kernel
theorem dX5_put_45 : decode cX5_put 45 = .ok (.getfield 18, 3) := by decide +kernel
theorem dX5_put_48 : decode cX5_put 48 = .ok (.iload_n 1, 1) := by decide +kernel
theorem dX5_put_49 : decode cX5_put 49 = .ok (.iload_n 2, 1) := by decide +kernel
theorem dX5_put_50 : decode cX5_put 50 = .ok (.iload_n 3, 1) := by decide +kernel
theorem dX5_put_51 : decode cX5_put 51 = .ok (.i2b, 1) := by decide +kernel
theorem dX5_put_52 : decode cX5_put 52 = .ok (.invokevirtual 86, 3) := by decide +kernel
theorem dX5_put_55 : decode cX5_put 55 = .ok (.iload 5, 2) := by decide +kernel
theorem dX5_put_57 : decode cX5_put 57 = .ok (.sipush 1000, 3) := by decide +kernel
theorem dX5_put_60 : decode cX5_put 60 = .ok (.iadd, 1) := by decide +kernel
theorem dX5_put_61 : decode cX5_put 61 = .ok (.ireturn, 1) := by decide +kernel
theorem dX5_fault_0 : decode cX5_fault 0 = .ok (.aload_n 0, 1) := by decide +kernel
theorem dX5_fault_1 : decode cX5_fault 1 = .ok (.getfield 18, 3) := by decide +kernel
theorem dX5_fault_4 : decode cX5_fault 4 = .ok (.iload_n 1, 1) := by decide +kernel
theorem dX5_fault_5 : decode cX5_fault 5 = .ok (.invokevirtual 74, 3) := by decide +kernel
theorem dX5_fault_8 : decode cX5_fault 8 = .ok (.ifCond .ne 5, 3) := by decide +kernel
theorem dX5_fault_11 : decode cX5_fault 11 = .ok (.iconst (-1), 1) := by decide +kernel
theorem dX5_fault_12 : decode cX5_fault 12 = .ok (.ireturn, 1) := by decide +kernel
theorem dX5_fault_13 : decode cX5_fault 13 = .ok (.aload_n 0, 1) := by decide +kernel
theorem dX5_fault_14 : decode cX5_fault 14 = .ok (.getfield 18, 3) := by decide +kernel
theorem dX5_fault_17 : decode cX5_fault 17 = .ok (.iload_n 1, 1) := by decide +kernel
theorem dX5_fault_18 : decode cX5_fault 18 = .ok (.invokevirtual 93, 3) := by decide +kernel
theorem dX5_fault_21 : decode cX5_fault 21 = .ok (.ifCond .ne 9, 3) := by decide +kernel
theorem dX5_fault_24 : decode cX5_fault 24 = .ok (.aload_n 0, 1) := by decide +kernel
theorem dX5_fault_25 : decode cX5_fault 25 = .ok (.iconst 1, 1) := by decide +kernel
theorem dX5_fault_26 : decode cX5_fault 26 = .ok (.invokevirtual 96, 3) := by decide +kernel
theorem dX5_fault_29 : decode cX5_fault 29 = .ok (.ireturn, 1) := by decide +kernel
theorem dX5_fault_30 : decode cX5_fault 30 = .ok (.aload_n 0, 1) := by decide +kernel
theorem dX5_fault_31 : decode cX5_fault 31 = .ok (.getfield 24, 3) := by decide +kernel
theorem dX5_fault_34 : decode cX5_fault 34 = .ok (.aload_n 0, 1) := by decide +kernel
theorem dX5_fault_35 : decode cX5_fault 35 = .ok (.getfield 18, 3) := by decide +kernel
theorem dX5_fault_38 : decode cX5_fault 38 = .ok (.iload_n 1, 1) := by decide +kernel
theorem dX5_fault_39 : decode cX5_fault 39 = .ok (.invokevirtual 119, 3) := by decide +kernel
theorem dX5_fault_42 : decode cX5_fault 42 = .ok (.ireturn, 1) := by decide +kernel
theorem dX5_land_0 : decode cX5_land 0 = .ok (.aload_n 0, 1) := by decide +kernel
theorem dX5_land_1 : decode cX5_land 1 = .ok (.getfield 18, 3) := by decide +kernel
theorem dX5_land_4 : decode cX5_land 4 = .ok (.iload_n 1, 1) := by decide +kernel
theorem dX5_land_5 : decode cX5_land 5 = .ok (.invokevirtual 74, 3) := by decide +kernel
theorem dX5_land_8 : decode cX5_land 8 = .ok (.ifCond .ne 5, 3) := by decide +kernel
theorem dX5_land_11 : decode cX5_land 11 = .ok (.iconst (-1), 1) := by decide +kernel
theorem dX5_land_12 : decode cX5_land 12 = .ok (.ireturn, 1) := by decide +kernel
theorem dX5_land_13 : decode cX5_land 13 = .ok (.aload_n 0, 1) := by decide +kernel
theorem dX5_land_14 : decode cX5_land 14 = .ok (.getfield 18, 3) := by decide +kernel
theorem dX5_land_17 : decode cX5_land 17 = .ok (.iload_n 1, 1) := by decide +kernel
theorem dX5_land_18 : decode cX5_land 18 = .ok (.invokevirtual 93, 3) := by decide +kernel
theorem dX5_land_21 : decode cX5_land 21 = .ok (.ifCond .ne 9, 3) := by decide +kernel
theorem dX5_land_24 : decode cX5_land 24 = .ok (.aload_n 0, 1) := by decide +kernel
theorem dX5_land_25 : decode cX5_land 25 = .ok (.iconst 1, 1) := by decide +kernel
theorem dX5_land_26 : decode cX5_land 26 = .ok (.invokevirtual 96, 3) := by decide +kernel
theorem dX5_land_29 : decode cX5_land 29 = .ok (.ireturn, 1) := by decide +kernel
theorem dX5_land_30 : decode cX5_land 30 = .ok (.aload_n 0, 1) := by decide +kernel
theorem dX5_land_31 : decode cX5_land 31 = .ok (.getfield 24, 3) := by decide +kernel
theorem dX5_land_34 : decode cX5_land 34 = .ok (.aload_n 0, 1) := by decide +kernel
theorem dX5_land_35 : decode cX5_land 35 = .ok (.getfield 18, 3) := by decide +kernel
theorem dX5_land_38 : decode cX5_land 38 = .ok (.iload_n 1, 1) := by decide +kernel
theorem dX5_land_39 : decode cX5_land 39 = .ok (.invokevirtual 119, 3) := by decide +kernel
theorem dX5_land_42 : decode cX5_land 42 = .ok (.bipush (-9), 2) := by decide +kernel
theorem dX5_land_44 : decode cX5_land 44 = .ok (.if_icmp .eq 6, 3) := by decide +kernel
theorem dX5_land_47 : decode cX5_land 47 = .ok (.bipush (-4), 2) := by decide +kernel
theorem dX5_land_49 : decode cX5_land 49 = .ok (.ireturn, 1) := by decide +kernel
theorem dX5_land_50 : decode cX5_land 50 = .ok (.aload_n 0, 1) := by decide +kernel
theorem dX5_land_51 : decode cX5_land 51 = .ok (.getfield 31, 3) := by decide +kernel
theorem dX5_land_54 : decode cX5_land 54 = .ok (.aload_n 0, 1) := by decide +kernel
theorem dX5_land_55 : decode cX5_land 55 = .ok (.getfield 24, 3) := by decide +kernel
theorem dX5_land_58 : decode cX5_land 58 = .ok (.invokevirtual 123, 3) := by decide +kernel
theorem dX5_land_61 : decode cX5_land 61 = .ok (.iconst 0, 1) := by decide +kernel
theorem dX5_land_62 : decode cX5_land 62 = .ok (.istore_n 2, 1) := by decide +kernel
theorem dX5_land_63 : decode cX5_land 63 = .ok (.iload_n 2, 1) := by decide +kernel
theorem dX5_land_64 : decode cX5_land 64 = .ok (.iconst 3, 1) := by decide +kernel
theorem dX5_land_65 : decode cX5_land 65 = .ok (.if_icmp .ge 16, 3) := by decide +kernel
theorem dX5_land_68 : decode cX5_land 68 = .ok (.aload_n 0, 1) := by decide +kernel
theorem dX5_land_69 : decode cX5_land 69 = .ok (.getfield 55, 3) := by decide +kernel
theorem dX5_land_72 : decode cX5_land 72 = .ok (.iload_n 2, 1) := by decide +kernel
theorem dX5_land_73 : decode cX5_land 73 = .ok (.iconst 0, 1) := by decide +kernel
theorem dX5_land_74 : decode cX5_land 74 = .ok (.bastore, 1) := by decide +kernel
theorem dX5_land_75 : decode cX5_land 75 = .ok (.iinc 2 1, 3) := by decide +kernel
theorem dX5_land_78 : decode cX5_land 78 = .ok (.goto (-15), 3) := by decide +kernel
theorem dX5_land_81 : decode cX5_land 81 = .ok (.aload_n 0, 1) := by decide +kernel
theorem dX5_land_82 : decode cX5_land 82 = .ok (.getfield 31, 3) := by decide +kernel
theorem dX5_land_85 : decode cX5_land 85 = .ok (.getfield 127, 3) := by decide +kernel
theorem dX5_land_88 : decode cX5_land 88 = .ok (.ireturn, 1) := by decide +kernel
theorem dX5_spot_0 : decode cX5_spot 0 = .ok (.aload_n 0, 1) := by decide +kernel
theorem dX5_spot_1 : decode cX5_spot 1 = .ok (.getfield 31, 3) := by decide +kernel
theorem dX5_spot_4 : decode cX5_spot 4 = .ok (.iload_n 1, 1) := by decide +kernel
theorem dX5_spot_5 : decode cX5_spot 5 = .ok (.invokevirtual 130, 3) := by decide +kernel
theorem dX5_spot_8 : decode cX5_spot 8 = .ok (.ifCond .ne 5, 3) := by decide +kernel
theorem dX5_spot_11 : decode cX5_spot 11 = .ok (.iconst (-1), 1) := by decide +kernel
theorem dX5_spot_12 : decode cX5_spot 12 = .ok (.ireturn, 1) := by decide +kernel
theorem dX5_spot_13 : decode cX5_spot 13 = .ok (.aload_n 0, 1) := by decide +kernel
theorem dX5_spot_14 : decode cX5_spot 14 = .ok (.aload_n 0, 1) := by decide +kernel
theorem dX5_spot_15 : decode cX5_spot 15 = .ok (.getfield 31, 3) := by decide +kernel
theorem dX5_spot_18 : decode cX5_spot 18 = .ok (.iload_n 1, 1) := by decide +kernel
theorem dX5_spot_19 : decode cX5_spot 19 = .ok (.invokevirtual 133, 3) := by decide +kernel
theorem dX5_spot_22 : decode cX5_spot 22 = .ok (.ifCond .eq 7, 3) := by decide +kernel
theorem dX5_spot_25 : decode cX5_spot 25 = .ok (.iconst 1, 1) := by decide +kernel
theorem dX5_spot_26 : decode cX5_spot 26 = .ok (.goto 4, 3) := by decide +kernel
theorem dX5_spot_29 : decode cX5_spot 29 = .ok (.iconst 0, 1) := by decide +kernel
theorem dX5_spot_30 : decode cX5_spot 30 = .ok (.aload_n 0, 1) := by decide +kernel
theorem dX5_spot_31 : decode cX5_spot 31 = .ok (.getfield 31, 3) := by decide +kernel
theorem dX5_spot_34 : decode cX5_spot 34 = .ok (.getfield 136, 3) := by decide +kernel
theorem dX5_spot_37 : decode cX5_spot 37 = .ok (.iload_n 1, 1) := by decide +kernel
theorem dX5_spot_38 : decode cX5_spot 38 = .ok (.iaload, 1) := by decide +kernel
theorem dX5_spot_39 : decode cX5_spot 39 = .ok (.invokevirtual 90, 3) := by decide +kernel
theorem dX5_spot_42 : decode cX5_spot 42 = .ok (.ireturn, 1) := by decide +kernel
theorem dX5_band_0 : decode cX5_band 0 = .ok (.aload_n 0, 1) := by decide +kernel
theorem dX5_band_1 : decode cX5_band 1 = .ok (.getfield 31, 3) := by decide +kernel
theorem dX5_band_4 : decode cX5_band 4 = .ok (.iload_n 1, 1) := by decide +kernel
theorem dX5_band_5 : decode cX5_band 5 = .ok (.invokevirtual 139, 3) := by decide +kernel
theorem dX5_band_8 : decode cX5_band 8 = .ok (.ifCond .eq 12, 3) := by decide +kernel
theorem dX5_band_11 : decode cX5_band 11 = .ok (.iload_n 2, 1) := by decide +kernel
theorem dX5_band_12 : decode cX5_band 12 = .ok (.ifCond .lt 8, 3) := by decide +kernel
theorem dX5_band_15 : decode cX5_band 15 = .ok (.iload_n 2, 1) := by decide +kernel
theorem dX5_band_16 : decode cX5_band 16 = .ok (.iconst 5, 1) := by decide +kernel
theorem dX5_band_17 : decode cX5_band 17 = .ok (.if_icmp .lt 5, 3) := by decide +kernel
theorem dX5_band_20 : decode cX5_band 20 = .ok (.iconst (-1), 1) := by decide +kernel
theorem dX5_band_21 : decode cX5_band 21 = .ok (.ireturn, 1) := by decide +kernel
theorem dX5_band_22 : decode cX5_band 22 = .ok (.aload_n 0, 1) := by decide +kernel
theorem dX5_band_23 : decode cX5_band 23 = .ok (.iconst 1, 1) := by decide +kernel
theorem dX5_band_24 : decode cX5_band 24 = .ok (.aload_n 0, 1) := by decide +kernel
theorem dX5_band_25 : decode cX5_band 25 = .ok (.getfield 31, 3) := by decide +kernel
theorem dX5_band_28 : decode cX5_band 28 = .ok (.iload_n 1, 1) := by decide +kernel
theorem dX5_band_29 : decode cX5_band 29 = .ok (.iload_n 2, 1) := by decide +kernel
theorem dX5_band_30 : decode cX5_band 30 = .ok (.invokevirtual 142, 3) := by decide +kernel
theorem dX5_band_33 : decode cX5_band 33 = .ok (.invokevirtual 90, 3) := by decide +kernel
theorem dX5_band_36 : decode cX5_band 36 = .ok (.ireturn, 1) := by decide +kernel
theorem dX5_mark_0 : decode cX5_mark 0 = .ok (.aload_n 0, 1) := by decide +kernel
theorem dX5_mark_1 : decode cX5_mark 1 = .ok (.getfield 31, 3) := by decide +kernel
theorem dX5_mark_4 : decode cX5_mark 4 = .ok (.iload_n 1, 1) := by decide +kernel
theorem dX5_mark_5 : decode cX5_mark 5 = .ok (.invokevirtual 139, 3) := by decide +kernel
theorem dX5_mark_8 : decode cX5_mark 8 = .ok (.ifCond .eq 13, 3) := by decide +kernel
theorem dX5_mark_11 : decode cX5_mark 11 = .ok (.iload_n 2, 1) := by decide +kernel
theorem dX5_mark_12 : decode cX5_mark 12 = .ok (.ifCond .le 9, 3) := by decide +kernel
theorem dX5_mark_15 : decode cX5_mark 15 = .ok (.iload_n 2, 1) := by decide +kernel
theorem dX5_mark_16 : decode cX5_mark 16 = .ok (.bipush 6, 2) := by decide +kernel
theorem dX5_mark_18 : decode cX5_mark 18 = .ok (.if_icmp .lt 5, 3) := by decide +kernel
theorem dX5_mark_21 : decode cX5_mark 21 = .ok (.iconst (-1), 1) := by decide +kernel
theorem dX5_mark_22 : decode cX5_mark 22 = .ok (.ireturn, 1) := by decide +kernel
theorem dX5_mark_23 : decode cX5_mark 23 = .ok (.aload_n 0, 1) := by decide +kernel
theorem dX5_mark_24 : decode cX5_mark 24 = .ok (.getfield 31, 3) := by decide +kernel
theorem dX5_mark_27 : decode cX5_mark 27 = .ok (.iload_n 1, 1) := by decide +kernel
theorem dX5_mark_28 : decode cX5_mark 28 = .ok (.iload_n 2, 1) := by decide +kernel
theorem dX5_mark_29 : decode cX5_mark 29 = .ok (.invokevirtual 145, 3) := by decide +kernel
theorem dX5_mark_32 : decode cX5_mark 32 = .ok (.ifCond .ne 9, 3) := by decide +kernel
theorem dX5_mark_35 : decode cX5_mark 35 = .ok (.aload_n 0, 1) := by decide +kernel
theorem dX5_mark_36 : decode cX5_mark 36 = .ok (.iconst 3, 1) := by decide +kernel
theorem dX5_mark_37 : decode cX5_mark 37 = .ok (.invokevirtual 96, 3) := by decide +kernel
theorem dX5_mark_40 : decode cX5_mark 40 = .ok (.ireturn, 1) := by decide +kernel
theorem dX5_mark_41 : decode cX5_mark 41 = .ok (.iload_n 2, 1) := by decide +kernel
theorem dX5_mark_42 : decode cX5_mark 42 = .ok (.tableswitch 88 1 4 #[30, 40, 49, 69], 30) := by decide +kernel
theorem dX5_mark_72 : decode cX5_mark 72 = .ok (.aload_n 0, 1) := by decide +kernel
theorem dX5_mark_73 : decode cX5_mark 73 = .ok (.getfield 40, 3) := by decide +kernel
theorem dX5_mark_76 : decode cX5_mark 76 = .ok (.iload_n 1, 1) := by decide +kernel
theorem dX5_mark_77 : decode cX5_mark 77 = .ok (.iconst 1, 1) := by decide +kernel
theorem dX5_mark_78 : decode cX5_mark 78 = .ok (.invokevirtual 149, 3) := by decide +kernel
theorem dX5_mark_81 : decode cX5_mark 81 = .ok (.ireturn, 1) := by decide +kernel
theorem dX5_mark_82 : decode cX5_mark 82 = .ok (.aload_n 0, 1) := by decide +kernel
theorem dX5_mark_83 : decode cX5_mark 83 = .ok (.getfield 31, 3) := by decide +kernel
theorem dX5_mark_86 : decode cX5_mark 86 = .ok (.iload_n 1, 1) := by decide +kernel
theorem dX5_mark_87 : decode cX5_mark 87 = .ok (.invokevirtual 152, 3) := by decide +kernel
theorem dX5_mark_90 : decode cX5_mark 90 = .ok (.ireturn, 1) := by decide +kernel
theorem dX5_mark_91 : decode cX5_mark 91 = .ok (.aload_n 0, 1) := by decide +kernel
theorem dX5_mark_92 : decode cX5_mark 92 = .ok (.getfield 31, 3) := by decide +kernel
theorem dX5_mark_95 : decode cX5_mark 95 = .ok (.getfield 127, 3) := by decide +kernel
theorem dX5_mark_98 : decode cX5_mark 98 = .ok (.iconst 1, 1) := by decide +kernel
theorem dX5_mark_99 : decode cX5_mark 99 = .ok (.isub, 1) := by decide +kernel
theorem dX5_mark_100 : decode cX5_mark 100 = .ok (.aload_n 0, 1) := by decide +kernel
theorem dX5_mark_101 : decode cX5_mark 101 = .ok (.getfield 31, 3) := by decide +kernel
theorem dX5_mark_104 : decode cX5_mark 104 = .ok (.getfield 155, 3) := by decide +kernel
theorem dX5_mark_107 : decode cX5_mark 107 = .ok (.iload_n 1, 1) := by decide +kernel
theorem dX5_mark_108 : decode cX5_mark 108 = .ok (.iaload, 1) := by decide +kernel
theorem dX5_mark_109 : decode cX5_mark 109 = .ok (.isub, 1) := by decide +kernel
theorem dX5_mark_110 : decode cX5_mark 110 = .ok (.ireturn, 1) := by decide +kernel
theorem dX5_mark_111 : decode cX5_mark 111 = .ok (.aload_n 0, 1) := by decide +kernel
theorem dX5_mark_112 : decode cX5_mark 112 = .ok (.getfield 31, 3) := by decide +kernel
theorem dX5_mark_115 : decode cX5_mark 115 = .ok (.iload_n 1, 1) := by decide +kernel
theorem dX5_mark_116 : decode cX5_mark 116 = .ok (.invokevirtual 158, 3) := by decide +kernel
theorem dX5_mark_119 : decode cX5_mark 119 = .ok (.aload_n 0, 1) := by decide +kernel
theorem dX5_mark_120 : decode cX5_mark 120 = .ok (.getfield 31, 3) := by decide +kernel
theorem dX5_mark_123 : decode cX5_mark 123 = .ok (.getfield 161, 3) := by decide +kernel
theorem dX5_mark_126 : decode cX5_mark 126 = .ok (.iload_n 1, 1) := by decide +kernel
theorem dX5_mark_127 : decode cX5_mark 127 = .ok (.iaload, 1) := by decide +kernel
theorem dX5_mark_128 : decode cX5_mark 128 = .ok (.isub, 1) := by decide +kernel
theorem dX5_mark_129 : decode cX5_mark 129 = .ok (.ireturn, 1) := by decide +kernel
theorem dX5_mark_130 : decode cX5_mark 130 = .ok (.aload_n 0, 1) := by decide +kernel
theorem dX5_mark_131 : decode cX5_mark 131 = .ok (.getfield 40, 3) := by decide +kernel
theorem dX5_mark_134 : decode cX5_mark 134 = .ok (.iload_n 1, 1) := by decide +kernel
theorem dX5_mark_135 : decode cX5_mark 135 = .ok (.iconst 2, 1) := by decide +kernel
theorem dX5_mark_136 : decode cX5_mark 136 = .ok (.invokevirtual 149, 3) := by decide +kernel
theorem dX5_mark_139 : decode cX5_mark 139 = .ok (.ireturn, 1) := by decide +kernel
theorem dX5_frost_0 : decode cX5_frost 0 = .ok (.aload_n 0, 1) := by decide +kernel
theorem dX5_frost_1 : decode cX5_frost 1 = .ok (.getfield 31, 3) := by decide +kernel
theorem dX5_frost_4 : decode cX5_frost 4 = .ok (.iload_n 1, 1) := by decide +kernel
theorem dX5_frost_5 : decode cX5_frost 5 = .ok (.invokevirtual 164, 3) := by decide +kernel
theorem dX5_frost_8 : decode cX5_frost 8 = .ok (.ifCond .ne 5, 3) := by decide +kernel
theorem dX5_frost_11 : decode cX5_frost 11 = .ok (.iconst (-1), 1) := by decide +kernel
theorem dX5_frost_12 : decode cX5_frost 12 = .ok (.ireturn, 1) := by decide +kernel
theorem dX5_frost_13 : decode cX5_frost 13 = .ok (.aload_n 0, 1) := by decide +kernel
theorem dX5_frost_14 : decode cX5_frost 14 = .ok (.getfield 31, 3) := by decide +kernel
theorem dX5_frost_17 : decode cX5_frost 17 = .ok (.getfield 167, 3) := by decide +kernel
theorem dX5_frost_20 : decode cX5_frost 20 = .ok (.istore_n 2, 1) := by decide +kernel
theorem dX5_frost_21 : decode cX5_frost 21 = .ok (.aload_n 0, 1) := by decide +kernel
theorem dX5_frost_22 : decode cX5_frost 22 = .ok (.getfield 31, 3) := by decide +kernel
theorem dX5_frost_25 : decode cX5_frost 25 = .ok (.iload_n 1, 1) := by decide +kernel
theorem dX5_frost_26 : decode cX5_frost 26 = .ok (.putfield 167, 3) := by decide +kernel
theorem dX5_frost_29 : decode cX5_frost 29 = .ok (.iload_n 2, 1) := by decide +kernel
theorem dX5_frost_30 : decode cX5_frost 30 = .ok (.ireturn, 1) := by decide +kernel
theorem dX5_move_0 : decode cX5_move 0 = .ok (.aload_n 0, 1) := by decide +kernel
theorem dX5_move_1 : decode cX5_move 1 = .ok (.getfield 31, 3) := by decide +kernel
theorem dX5_move_4 : decode cX5_move 4 = .ok (.iload_n 1, 1) := by decide +kernel
theorem dX5_move_5 : decode cX5_move 5 = .ok (.invokevirtual 139, 3) := by decide +kernel
theorem dX5_move_8 : decode cX5_move 8 = .ok (.ifCond .eq 14, 3) := by decide +kernel
theorem dX5_move_11 : decode cX5_move 11 = .ok (.aload_n 0, 1) := by decide +kernel
theorem dX5_move_12 : decode cX5_move 12 = .ok (.getfield 31, 3) := by decide +kernel
theorem dX5_move_15 : decode cX5_move 15 = .ok (.iload_n 2, 1) := by decide +kernel
theorem dX5_move_16 : decode cX5_move 16 = .ok (.invokevirtual 130, 3) := by decide +kernel
theorem dX5_move_19 : decode cX5_move 19 = .ok (.ifCond .ne 5, 3) := by decide +kernel
theorem dX5_move_22 : decode cX5_move 22 = .ok (.iconst (-1), 1) := by decide +kernel
theorem dX5_move_23 : decode cX5_move 23 = .ok (.ireturn, 1) := by decide +kernel
theorem dX5_move_24 : decode cX5_move 24 = .ok (.aload_n 0, 1) := by decide +kernel
theorem dX5_move_25 : decode cX5_move 25 = .ok (.getfield 31, 3) := by decide +kernel
theorem dX5_move_28 : decode cX5_move 28 = .ok (.getfield 155, 3) := by decide +kernel
theorem dX5_move_31 : decode cX5_move 31 = .ok (.iload_n 1, 1) := by decide +kernel
theorem dX5_move_32 : decode cX5_move 32 = .ok (.iaload, 1) := by decide +kernel
theorem dX5_move_33 : decode cX5_move 33 = .ok (.istore_n 3, 1) := by decide +kernel
theorem dX5_move_34 : decode cX5_move 34 = .ok (.aload_n 0, 1) := by decide +kernel
theorem dX5_move_35 : decode cX5_move 35 = .ok (.getfield 31, 3) := by decide +kernel
theorem dX5_move_38 : decode cX5_move 38 = .ok (.getfield 155, 3) := by decide +kernel
theorem dX5_move_41 : decode cX5_move 41 = .ok (.iload_n 1, 1) := by decide +kernel
theorem dX5_move_42 : decode cX5_move 42 = .ok (.iload_n 2, 1) := by decide +kernel
theorem dX5_move_43 : decode cX5_move 43 = .ok (.iastore, 1) := by decide +kernel
theorem dX5_move_44 : decode cX5_move 44 = .ok (.iload_n 3, 1) := by decide +kernel
theorem dX5_move_45 : decode cX5_move 45 = .ok (.ireturn, 1) := by decide +kernel
theorem dX5_evening_0 : decode cX5_evening 0 = .ok (.aload_n 0, 1) := by decide +kernel
theorem dX5_evening_1 : decode cX5_evening 1 = .ok (.getfield 31, 3) := by decide +kernel
theorem dX5_evening_4 : decode cX5_evening 4 = .ok (.iload_n 1, 1) := by decide +kernel
theorem dX5_evening_5 : decode cX5_evening 5 = .ok (.invokevirtual 170, 3) := by decide +kernel
theorem dX5_evening_8 : decode cX5_evening 8 = .ok (.ifCond .ne 5, 3) := by decide +kernel
theorem dX5_evening_11 : decode cX5_evening 11 = .ok (.iconst (-1), 1) := by decide +kernel
theorem dX5_evening_12 : decode cX5_evening 12 = .ok (.ireturn, 1) := by decide +kernel
theorem dX5_evening_13 : decode cX5_evening 13 = .ok (.aload_n 0, 1) := by decide +kernel
theorem dX5_evening_14 : decode cX5_evening 14 = .ok (.getfield 31, 3) := by decide +kernel
theorem dX5_evening_17 : decode cX5_evening 17 = .ok (.getfield 127, 3) := by decide +kernel
theorem dX5_evening_20 : decode cX5_evening 20 = .ok (.ifCond .ne 6, 3) := by decide +kernel
theorem dX5_evening_23 : decode cX5_evening 23 = .ok (.bipush (-4), 2) := by decide +kernel
theorem dX5_evening_25 : decode cX5_evening 25 = .ok (.ireturn, 1) := by decide +kernel
theorem dX5_evening_26 : decode cX5_evening 26 = .ok (.aload_n 0, 1) := by decide +kernel
theorem dX5_evening_27 : decode cX5_evening 27 = .ok (.getfield 31, 3) := by decide +kernel
theorem dX5_evening_30 : decode cX5_evening 30 = .ok (.getfield 173, 3) := by decide +kernel
theorem dX5_evening_33 : decode cX5_evening 33 = .ok (.bipush 60, 2) := by decide +kernel
theorem dX5_evening_35 : decode cX5_evening 35 = .ok (.if_icmp .lt 6, 3) := by decide +kernel
theorem dX5_evening_38 : decode cX5_evening 38 = .ok (.bipush (-2), 2) := by decide +kernel
theorem dX5_evening_40 : decode cX5_evening 40 = .ok (.ireturn, 1) := by decide +kernel
theorem dX5_evening_41 : decode cX5_evening 41 = .ok (.aload_n 0, 1) := by decide +kernel
theorem dX5_evening_42 : decode cX5_evening 42 = .ok (.aload_n 0, 1) := by decide +kernel
theorem dX5_evening_43 : decode cX5_evening 43 = .ok (.getfield 31, 3) := by decide +kernel
theorem dX5_evening_46 : decode cX5_evening 46 = .ok (.iload_n 1, 1) := by decide +kernel
theorem dX5_evening_47 : decode cX5_evening 47 = .ok (.invokevirtual 176, 3) := by decide +kernel
theorem dX5_evening_50 : decode cX5_evening 50 = .ok (.aload_n 0, 1) := by decide +kernel
theorem dX5_evening_51 : decode cX5_evening 51 = .ok (.getfield 31, 3) := by decide +kernel
theorem dX5_evening_54 : decode cX5_evening 54 = .ok (.iload_n 1, 1) := by decide +kernel
theorem dX5_evening_55 : decode cX5_evening 55 = .ok (.invokevirtual 179, 3) := by decide +kernel
theorem dX5_evening_58 : decode cX5_evening 58 = .ok (.invokevirtual 90, 3) := by decide +kernel
theorem dX5_evening_61 : decode cX5_evening 61 = .ok (.ireturn, 1) := by decide +kernel
theorem dX5_undo_0 : decode cX5_undo 0 = .ok (.iload_n 1, 1) := by decide +kernel
theorem dX5_undo_1 : decode cX5_undo 1 = .ok (.ifCond .lt 14, 3) := by decide +kernel
theorem dX5_undo_4 : decode cX5_undo 4 = .ok (.iload_n 1, 1) := by decide +kernel
theorem dX5_undo_5 : decode cX5_undo 5 = .ok (.aload_n 0, 1) := by decide +kernel
theorem dX5_undo_6 : decode cX5_undo 6 = .ok (.getfield 31, 3) := by decide +kernel
theorem dX5_undo_9 : decode cX5_undo 9 = .ok (.getfield 173, 3) := by decide +kernel
theorem dX5_undo_12 : decode cX5_undo 12 = .ok (.if_icmp .le 5, 3) := by decide +kernel
theorem dX5_undo_15 : decode cX5_undo 15 = .ok (.iconst (-1), 1) := by decide +kernel
theorem dX5_undo_16 : decode cX5_undo 16 = .ok (.ireturn, 1) := by decide +kernel
theorem dX5_undo_17 : decode cX5_undo 17 = .ok (.aload_n 0, 1) := by decide +kernel
theorem dX5_undo_18 : decode cX5_undo 18 = .ok (.getfield 31, 3) := by decide +kernel
theorem dX5_undo_21 : decode cX5_undo 21 = .ok (.iload_n 1, 1) := by decide +kernel
theorem dX5_undo_22 : decode cX5_undo 22 = .ok (.invokevirtual 182, 3) := by decide +kernel
theorem dX5_undo_25 : decode cX5_undo 25 = .ok (.ireturn, 1) := by decide +kernel
theorem dX5_heights_0 : decode cX5_heights 0 = .ok (.aload_n 0, 1) := by decide +kernel
theorem dX5_heights_1 : decode cX5_heights 1 = .ok (.getfield 14, 3) := by decide +kernel
theorem dX5_heights_4 : decode cX5_heights 4 = .ok (.iload_n 1, 1) := by decide +kernel
theorem dX5_heights_5 : decode cX5_heights 5 = .ok (.invokevirtual 74, 3) := by decide +kernel
theorem dX5_heights_8 : decode cX5_heights 8 = .ok (.ifCond .ne 5, 3) := by decide +kernel
theorem dX5_heights_11 : decode cX5_heights 11 = .ok (.iconst (-1), 1) := by decide +kernel
theorem dX5_heights_12 : decode cX5_heights 12 = .ok (.ireturn, 1) := by decide +kernel
theorem dX5_heights_13 : decode cX5_heights 13 = .ok (.aload_n 0, 1) := by decide +kernel
theorem dX5_heights_14 : decode cX5_heights 14 = .ok (.getfield 14, 3) := by decide +kernel
theorem dX5_heights_17 : decode cX5_heights 17 = .ok (.iload_n 1, 1) := by decide +kernel
theorem dX5_heights_18 : decode cX5_heights 18 = .ok (.aload_n 0, 1) := by decide +kernel
theorem dX5_heights_19 : decode cX5_heights 19 = .ok (.getfield 31, 3) := by decide +kernel
theorem dX5_heights_22 : decode cX5_heights 22 = .ok (.getfield 127, 3) := by decide +kernel
theorem dX5_heights_25 : decode cX5_heights 25 = .ok (.iconst 0, 1) := by decide +kernel
theorem dX5_heights_26 : decode cX5_heights 26 = .ok (.invokevirtual 185, 3) := by decide +kernel
theorem dX5_heights_29 : decode cX5_heights 29 = .ok (.iconst 0, 1) := by decide +kernel
theorem dX5_heights_30 : decode cX5_heights 30 = .ok (.istore_n 2, 1) := by decide +kernel
theorem dX5_heights_31 : decode cX5_heights 31 = .ok (.iload_n 2, 1) := by decide +kernel
theorem dX5_heights_32 : decode cX5_heights 32 = .ok (.aload_n 0, 1) := by decide +kernel
theorem dX5_heights_33 : decode cX5_heights 33 = .ok (.getfield 31, 3) := by decide +kernel
theorem dX5_heights_36 : decode cX5_heights 36 = .ok (.getfield 127, 3) := by decide +kernel
theorem dX5_heights_39 : decode cX5_heights 39 = .ok (.if_icmp .ge 27, 3) := by decide +kernel
theorem dX5_heights_42 : decode cX5_heights 42 = .ok (.aload_n 0, 1) := by decide +kernel
theorem dX5_heights_43 : decode cX5_heights 43 = .ok (.getfield 14, 3) := by decide +kernel
theorem dX5_heights_46 : decode cX5_heights 46 = .ok (.iload_n 1, 1) := by decide +kernel
theorem dX5_heights_47 : decode cX5_heights 47 = .ok (.iload_n 2, 1) := by decide +kernel
theorem dX5_heights_48 : decode cX5_heights 48 = .ok (.aload_n 0, 1) := by decide +kernel
theorem dX5_heights_49 : decode cX5_heights 49 = .ok (.getfield 31, 3) := by decide +kernel
theorem dX5_heights_52 : decode cX5_heights 52 = .ok (.getfield 136, 3) := by decide +kernel
theorem dX5_heights_55 : decode cX5_heights 55 = .ok (.iload_n 2, 1) := by decide +kernel
theorem dX5_heights_56 : decode cX5_heights 56 = .ok (.iaload, 1) := by decide +kernel
theorem dX5_heights_57 : decode cX5_heights 57 = .ok (.invokevirtual 86, 3) := by decide +kernel
theorem dX5_heights_60 : decode cX5_heights 60 = .ok (.iinc 2 1, 3) := by decide +kernel
theorem dX5_heights_63 : decode cX5_heights 63 = .ok (.goto (-32), 3) := by decide +kernel
theorem dX5_heights_66 : decode cX5_heights 66 = .ok (.aload_n 0, 1) := by decide +kernel
theorem dX5_heights_67 : decode cX5_heights 67 = .ok (.getfield 31, 3) := by decide +kernel
theorem dX5_heights_70 : decode cX5_heights 70 = .ok (.invokevirtual 188, 3) := by decide +kernel
theorem dX5_heights_73 : decode cX5_heights 73 = .ok (.ireturn, 1) := by decide +kernel
theorem dX5_keep_0 : decode cX5_keep 0 = .ok (.iload_n 1, 1) := by decide +kernel
theorem dX5_keep_1 : decode cX5_keep 1 = .ok (.ifCond .lt 8, 3) := by decide +kernel
theorem dX5_keep_4 : decode cX5_keep 4 = .ok (.iload_n 1, 1) := by decide +kernel
theorem dX5_keep_5 : decode cX5_keep 5 = .ok (.iconst 3, 1) := by decide +kernel
theorem dX5_keep_6 : decode cX5_keep 6 = .ok (.if_icmp .lt 5, 3) := by decide +kernel
theorem dX5_keep_9 : decode cX5_keep 9 = .ok (.iconst (-1), 1) := by decide +kernel
theorem dX5_keep_10 : decode cX5_keep 10 = .ok (.ireturn, 1) := by decide +kernel
theorem dX5_keep_11 : decode cX5_keep 11 = .ok (.aload_n 0, 1) := by decide +kernel
theorem dX5_keep_12 : decode cX5_keep 12 = .ok (.getfield 31, 3) := by decide +kernel
theorem dX5_keep_15 : decode cX5_keep 15 = .ok (.getfield 127, 3) := by decide +kernel
theorem dX5_keep_18 : decode cX5_keep 18 = .ok (.ifCond .ne 6, 3) := by decide +kernel
theorem dX5_keep_21 : decode cX5_keep 21 = .ok (.bipush (-4), 2) := by decide +kernel
theorem dX5_keep_23 : decode cX5_keep 23 = .ok (.ireturn, 1) := by decide +kernel
theorem dX5_keep_24 : decode cX5_keep 24 = .ok (.aload_n 0, 1) := by decide +kernel
theorem dX5_keep_25 : decode cX5_keep 25 = .ok (.getfield 51, 3) := by decide +kernel
theorem dX5_keep_28 : decode cX5_keep 28 = .ok (.iload_n 1, 1) := by decide +kernel
theorem dX5_keep_29 : decode cX5_keep 29 = .ok (.aaload, 1) := by decide +kernel
theorem dX5_keep_30 : decode cX5_keep 30 = .ok (.astore_n 2, 1) := by decide +kernel
theorem dX5_keep_31 : decode cX5_keep 31 = .ok (.aload_n 2, 1) := by decide +kernel
theorem dX5_keep_32 : decode cX5_keep 32 = .ok (.ifnonnull 18, 3) := by decide +kernel
theorem dX5_keep_35 : decode cX5_keep 35 = .ok (.new 28, 3) := by decide +kernel
theorem dX5_keep_38 : decode cX5_keep 38 = .ok (.dup, 1) := by decide +kernel
theorem dX5_keep_39 : decode cX5_keep 39 = .ok (.invokespecial 30, 3) := by decide +kernel
theorem dX5_keep_42 : decode cX5_keep 42 = .ok (.astore_n 2, 1) := by decide +kernel
theorem dX5_keep_43 : decode cX5_keep 43 = .ok (.aload_n 0, 1) := by decide +kernel
theorem dX5_keep_44 : decode cX5_keep 44 = .ok (.getfield 51, 3) := by decide +kernel
theorem dX5_keep_47 : decode cX5_keep 47 = .ok (.iload_n 1, 1) := by decide +kernel
theorem dX5_keep_48 : decode cX5_keep 48 = .ok (.aload_n 2, 1) := by decide +kernel
theorem dX5_keep_49 : decode cX5_keep 49 = .ok (.aastore, 1) := by decide +kernel
theorem dX5_keep_50 : decode cX5_keep 50 = .ok (.aload_n 2, 1) := by decide +kernel
theorem dX5_keep_51 : decode cX5_keep 51 = .ok (.aload_n 0, 1) := by decide +kernel
theorem dX5_keep_52 : decode cX5_keep 52 = .ok (.getfield 31, 3) := by decide +kernel
theorem dX5_keep_55 : decode cX5_keep 55 = .ok (.invokevirtual 192, 3) := by decide +kernel
theorem dX5_keep_58 : decode cX5_keep 58 = .ok (.aload_n 0, 1) := by decide +kernel
theorem dX5_keep_59 : decode cX5_keep 59 = .ok (.getfield 55, 3) := by decide +kernel
theorem dX5_keep_62 : decode cX5_keep 62 = .ok (.iload_n 1, 1) := by decide +kernel
theorem dX5_keep_63 : decode cX5_keep 63 = .ok (.iconst 1, 1) := by decide +kernel
theorem dX5_keep_64 : decode cX5_keep 64 = .ok (.bastore, 1) := by decide +kernel
theorem dX5_keep_65 : decode cX5_keep 65 = .ok (.aload_n 0, 1) := by decide +kernel
theorem dX5_keep_66 : decode cX5_keep 66 = .ok (.getfield 31, 3) := by decide +kernel
theorem dX5_keep_69 : decode cX5_keep 69 = .ok (.getfield 173, 3) := by decide +kernel
theorem dX5_keep_72 : decode cX5_keep 72 = .ok (.ireturn, 1) := by decide +kernel
theorem dX5_on_0 : decode cX5_on 0 = .ok (.iload_n 1, 1) := by decide +kernel
theorem dX5_on_1 : decode cX5_on 1 = .ok (.ifCond .lt 8, 3) := by decide +kernel
theorem dX5_on_4 : decode cX5_on 4 = .ok (.iload_n 1, 1) := by decide +kernel
theorem dX5_on_5 : decode cX5_on 5 = .ok (.iconst 3, 1) := by decide +kernel
theorem dX5_on_6 : decode cX5_on 6 = .ok (.if_icmp .lt 5, 3) := by decide +kernel
theorem dX5_on_9 : decode cX5_on 9 = .ok (.iconst (-1), 1) := by decide +kernel
theorem dX5_on_10 : decode cX5_on 10 = .ok (.ireturn, 1) := by decide +kernel
theorem dX5_on_11 : decode cX5_on 11 = .ok (.aload_n 0, 1) := by decide +kernel
theorem dX5_on_12 : decode cX5_on 12 = .ok (.getfield 51, 3) := by decide +kernel
theorem dX5_on_15 : decode cX5_on 15 = .ok (.iload_n 1, 1) := by decide +kernel
theorem dX5_on_16 : decode cX5_on 16 = .ok (.aaload, 1) := by decide +kernel
theorem dX5_on_17 : decode cX5_on 17 = .ok (.astore_n 2, 1) := by decide +kernel
theorem dX5_on_18 : decode cX5_on 18 = .ok (.aload_n 0, 1) := by decide +kernel
theorem dX5_on_19 : decode cX5_on 19 = .ok (.getfield 55, 3) := by decide +kernel
theorem dX5_on_22 : decode cX5_on 22 = .ok (.iload_n 1, 1) := by decide +kernel
theorem dX5_on_23 : decode cX5_on 23 = .ok (.baload, 1) := by decide +kernel
theorem dX5_on_24 : decode cX5_on 24 = .ok (.ifCond .eq 7, 3) := by decide +kernel
theorem dX5_on_27 : decode cX5_on 27 = .ok (.aload_n 2, 1) := by decide +kernel
theorem dX5_on_28 : decode cX5_on 28 = .ok (.ifnonnull 9, 3) := by decide +kernel
theorem dX5_on_31 : decode cX5_on 31 = .ok (.aload_n 0, 1) := by decide +kernel
theorem dX5_on_32 : decode cX5_on 32 = .ok (.iconst 1, 1) := by decide +kernel
theorem dX5_on_33 : decode cX5_on 33 = .ok (.invokevirtual 96, 3) := by decide +kernel
theorem dX5_on_36 : decode cX5_on 36 = .ok (.ireturn, 1) := by decide +kernel
theorem dX5_on_37 : decode cX5_on 37 = .ok (.aload_n 0, 1) := by decide +kernel
theorem dX5_on_38 : decode cX5_on 38 = .ok (.getfield 31, 3) := by decide +kernel
theorem dX5_on_41 : decode cX5_on 41 = .ok (.aload_n 2, 1) := by decide +kernel
theorem dX5_on_42 : decode cX5_on 42 = .ok (.invokevirtual 192, 3) := by decide +kernel
theorem dX5_on_45 : decode cX5_on 45 = .ok (.aload_n 0, 1) := by decide +kernel
theorem dX5_on_46 : decode cX5_on 46 = .ok (.getfield 31, 3) := by decide +kernel
theorem dX5_on_49 : decode cX5_on 49 = .ok (.getfield 173, 3) := by decide +kernel
theorem dX5_on_52 : decode cX5_on 52 = .ok (.ireturn, 1) := by decide +kernel
theorem dX5_behind_0 : decode cX5_behind 0 = .ok (.aload_n 0, 1) := by decide +kernel
theorem dX5_behind_1 : decode cX5_behind 1 = .ok (.getfield 31, 3) := by decide +kernel
theorem dX5_behind_4 : decode cX5_behind 4 = .ok (.iload_n 1, 1) := by decide +kernel
theorem dX5_behind_5 : decode cX5_behind 5 = .ok (.invokevirtual 170, 3) := by decide +kernel
theorem dX5_behind_8 : decode cX5_behind 8 = .ok (.ifCond .eq 24, 3) := by decide +kernel
theorem dX5_behind_11 : decode cX5_behind 11 = .ok (.iload_n 2, 1) := by decide +kernel
theorem dX5_behind_12 : decode cX5_behind 12 = .ok (.ifCond .lt 20, 3) := by decide +kernel
theorem dX5_behind_15 : decode cX5_behind 15 = .ok (.iload_n 2, 1) := by decide +kernel
theorem dX5_behind_16 : decode cX5_behind 16 = .ok (.bipush 60, 2) := by decide +kernel
theorem dX5_behind_18 : decode cX5_behind 18 = .ok (.if_icmp .gt 14, 3) := by decide +kernel
theorem dX5_behind_21 : decode cX5_behind 21 = .ok (.aload_n 0, 1) := by decide +kernel
theorem dX5_behind_22 : decode cX5_behind 22 = .ok (.getfield 31, 3) := by decide +kernel
theorem dX5_behind_25 : decode cX5_behind 25 = .ok (.iload_n 3, 1) := by decide +kernel
theorem dX5_behind_26 : decode cX5_behind 26 = .ok (.invokevirtual 130, 3) := by decide +kernel
theorem dX5_behind_29 : decode cX5_behind 29 = .ok (.ifCond .ne 5, 3) := by decide +kernel
theorem dX5_behind_32 : decode cX5_behind 32 = .ok (.iconst (-1), 1) := by decide +kernel
theorem dX5_behind_33 : decode cX5_behind 33 = .ok (.ireturn, 1) := by decide +kernel
theorem dX5_behind_34 : decode cX5_behind 34 = .ok (.aload_n 0, 1) := by decide +kernel
theorem dX5_behind_35 : decode cX5_behind 35 = .ok (.getfield 40, 3) := by decide +kernel
theorem dX5_behind_38 : decode cX5_behind 38 = .ok (.iload_n 1, 1) := by decide +kernel
theorem dX5_behind_39 : decode cX5_behind 39 = .ok (.iload_n 2, 1) := by decide +kernel
theorem dX5_behind_40 : decode cX5_behind 40 = .ok (.invokevirtual 195, 3) := by decide +kernel
theorem dX5_behind_43 : decode cX5_behind 43 = .ok (.istore 4, 2) := by decide +kernel
theorem dX5_behind_45 : decode cX5_behind 45 = .ok (.aload_n 0, 1) := by decide +kernel
theorem dX5_behind_46 : decode cX5_behind 46 = .ok (.aload_n 0, 1) := by decide +kernel
theorem dX5_behind_47 : decode cX5_behind 47 = .ok (.getfield 40, 3) := by decide +kernel
theorem dX5_behind_50 : decode cX5_behind 50 = .ok (.getfield 198, 3) := by decide +kernel
theorem dX5_behind_53 : decode cX5_behind 53 = .ok (.iload_n 3, 1) := by decide +kernel
theorem dX5_behind_54 : decode cX5_behind 54 = .ok (.iaload, 1) := by decide +kernel
theorem dX5_behind_55 : decode cX5_behind 55 = .ok (.iload 4, 2) := by decide +kernel
theorem dX5_behind_57 : decode cX5_behind 57 = .ok (.invokevirtual 90, 3) := by decide +kernel
theorem dX5_behind_60 : decode cX5_behind 60 = .ok (.ireturn, 1) := by decide +kernel
theorem dX5_rest_0 : decode cX5_rest 0 = .ok (.aload_n 0, 1) := by decide +kernel
theorem dX5_rest_1 : decode cX5_rest 1 = .ok (.getfield 31, 3) := by decide +kernel
theorem dX5_rest_4 : decode cX5_rest 4 = .ok (.iload_n 1, 1) := by decide +kernel
theorem dX5_rest_5 : decode cX5_rest 5 = .ok (.invokevirtual 170, 3) := by decide +kernel
theorem dX5_rest_8 : decode cX5_rest 8 = .ok (.ifCond .ne 5, 3) := by decide +kernel
theorem dX5_rest_11 : decode cX5_rest 11 = .ok (.iconst (-1), 1) := by decide +kernel
theorem dX5_rest_12 : decode cX5_rest 12 = .ok (.ireturn, 1) := by decide +kernel
theorem dX5_rest_13 : decode cX5_rest 13 = .ok (.aload_n 0, 1) := by decide +kernel
theorem dX5_rest_14 : decode cX5_rest 14 = .ok (.getfield 40, 3) := by decide +kernel
theorem dX5_rest_17 : decode cX5_rest 17 = .ok (.iload_n 1, 1) := by decide +kernel
theorem dX5_rest_18 : decode cX5_rest 18 = .ok (.invokevirtual 201, 3) := by decide +kernel
theorem dX5_rest_21 : decode cX5_rest 21 = .ok (.istore_n 2, 1) := by decide +kernel
theorem dX5_rest_22 : decode cX5_rest 22 = .ok (.iload_n 2, 1) := by decide +kernel
theorem dX5_rest_23 : decode cX5_rest 23 = .ok (.bipush (-9), 2) := by decide +kernel
theorem dX5_rest_25 : decode cX5_rest 25 = .ok (.if_icmp .ne 8, 3) := by decide +kernel
theorem dX5_rest_28 : decode cX5_rest 28 = .ok (.bipush (-9), 2) := by decide +kernel
theorem dX5_rest_30 : decode cX5_rest 30 = .ok (.goto 22, 3) := by decide +kernel
theorem dX5_rest_33 : decode cX5_rest 33 = .ok (.aload_n 0, 1) := by decide +kernel
theorem dX5_rest_34 : decode cX5_rest 34 = .ok (.iload_n 2, 1) := by decide +kernel
theorem dX5_rest_35 : decode cX5_rest 35 = .ok (.aload_n 0, 1) := by decide +kernel
theorem dX5_rest_36 : decode cX5_rest 36 = .ok (.getfield 31, 3) := by decide +kernel
theorem dX5_rest_39 : decode cX5_rest 39 = .ok (.aload_n 0, 1) := by decide +kernel
theorem dX5_rest_40 : decode cX5_rest 40 = .ok (.getfield 40, 3) := by decide +kernel
theorem dX5_rest_43 : decode cX5_rest 43 = .ok (.getfield 198, 3) := by decide +kernel
theorem dX5_rest_46 : decode cX5_rest 46 = .ok (.invokevirtual 204, 3) := by decide +kernel
theorem dX5_rest_49 : decode cX5_rest 49 = .ok (.invokevirtual 90, 3) := by decide +kernel
theorem dX5_rest_52 : decode cX5_rest 52 = .ok (.ireturn, 1) := by decide +kernel
theorem dX5_round_0 : decode cX5_round 0 = .ok (.aload_n 0, 1) := by decide +kernel
theorem dX5_round_1 : decode cX5_round 1 = .ok (.getfield 31, 3) := by decide +kernel
theorem dX5_round_4 : decode cX5_round 4 = .ok (.iload_n 1, 1) := by decide +kernel
theorem dX5_round_5 : decode cX5_round 5 = .ok (.invokevirtual 170, 3) := by decide +kernel
theorem dX5_round_8 : decode cX5_round 8 = .ok (.ifCond .ne 5, 3) := by decide +kernel
theorem dX5_round_11 : decode cX5_round 11 = .ok (.iconst (-1), 1) := by decide +kernel
theorem dX5_round_12 : decode cX5_round 12 = .ok (.ireturn, 1) := by decide +kernel
theorem dX5_round_13 : decode cX5_round 13 = .ok (.aload_n 0, 1) := by decide +kernel
theorem dX5_round_14 : decode cX5_round 14 = .ok (.getfield 40, 3) := by decide +kernel
theorem dX5_round_17 : decode cX5_round 17 = .ok (.iload_n 1, 1) := by decide +kernel
theorem dX5_round_18 : decode cX5_round 18 = .ok (.invokevirtual 208, 3) := by decide +kernel
theorem dX5_round_21 : decode cX5_round 21 = .ok (.ireturn, 1) := by decide +kernel
theorem dX5_highest_0 : decode cX5_highest 0 = .ok (.aload_n 0, 1) := by decide +kernel
theorem dX5_highest_1 : decode cX5_highest 1 = .ok (.getfield 31, 3) := by decide +kernel
theorem dX5_highest_4 : decode cX5_highest 4 = .ok (.iload_n 1, 1) := by decide +kernel
theorem dX5_highest_5 : decode cX5_highest 5 = .ok (.invokevirtual 130, 3) := by decide +kernel
theorem dX5_highest_8 : decode cX5_highest 8 = .ok (.ifCond .eq 12, 3) := by decide +kernel
theorem dX5_highest_11 : decode cX5_highest 11 = .ok (.aload_n 0, 1) := by decide +kernel
theorem dX5_highest_12 : decode cX5_highest 12 = .ok (.iload_n 1, 1) := by decide +kernel
theorem dX5_highest_13 : decode cX5_highest 13 = .ok (.iconst 1, 1) := by decide +kernel
theorem dX5_highest_14 : decode cX5_highest 14 = .ok (.invokevirtual 211, 3) := by decide +kernel
theorem dX5_highest_17 : decode cX5_highest 17 = .ok (.goto 4, 3) := by decide +kernel
theorem dX5_highest_20 : decode cX5_highest 20 = .ok (.iconst (-1), 1) := by decide +kernel
theorem dX5_highest_21 : decode cX5_highest 21 = .ok (.ireturn, 1) := by decide +kernel
theorem dX5_lowest_0 : decode cX5_lowest 0 = .ok (.aload_n 0, 1) := by decide +kernel
theorem dX5_lowest_1 : decode cX5_lowest 1 = .ok (.getfield 31, 3) := by decide +kernel
theorem dX5_lowest_4 : decode cX5_lowest 4 = .ok (.iload_n 1, 1) := by decide +kernel
theorem dX5_lowest_5 : decode cX5_lowest 5 = .ok (.invokevirtual 130, 3) := by decide +kernel
theorem dX5_lowest_8 : decode cX5_lowest 8 = .ok (.ifCond .eq 12, 3) := by decide +kernel
theorem dX5_lowest_11 : decode cX5_lowest 11 = .ok (.aload_n 0, 1) := by decide +kernel
theorem dX5_lowest_12 : decode cX5_lowest 12 = .ok (.iload_n 1, 1) := by decide +kernel
theorem dX5_lowest_13 : decode cX5_lowest 13 = .ok (.iconst (-1), 1) := by decide +kernel
theorem dX5_lowest_14 : decode cX5_lowest 14 = .ok (.invokevirtual 211, 3) := by decide +kernel
theorem dX5_lowest_17 : decode cX5_lowest 17 = .ok (.goto 4, 3) := by decide +kernel
theorem dX5_lowest_20 : decode cX5_lowest 20 = .ok (.iconst (-1), 1) := by decide +kernel
theorem dX5_lowest_21 : decode cX5_lowest 21 = .ok (.ireturn, 1) := by decide +kernel
theorem dX5_flat_0 : decode cX5_flat 0 = .ok (.aload_n 0, 1) := by decide +kernel
theorem dX5_flat_1 : decode cX5_flat 1 = .ok (.getfield 31, 3) := by decide +kernel
theorem dX5_flat_4 : decode cX5_flat 4 = .ok (.iload_n 1, 1) := by decide +kernel
theorem dX5_flat_5 : decode cX5_flat 5 = .ok (.invokevirtual 164, 3) := by decide +kernel
theorem dX5_flat_8 : decode cX5_flat 8 = .ok (.ifCond .eq 14, 3) := by decide +kernel
theorem dX5_flat_11 : decode cX5_flat 11 = .ok (.aload_n 0, 1) := by decide +kernel
theorem dX5_flat_12 : decode cX5_flat 12 = .ok (.getfield 14, 3) := by decide +kernel
theorem dX5_flat_15 : decode cX5_flat 15 = .ok (.iload_n 2, 1) := by decide +kernel
theorem dX5_flat_16 : decode cX5_flat 16 = .ok (.invokevirtual 74, 3) := by decide +kernel
theorem dX5_flat_19 : decode cX5_flat 19 = .ok (.ifCond .ne 5, 3) := by decide +kernel
theorem dX5_flat_22 : decode cX5_flat 22 = .ok (.iconst (-1), 1) := by decide +kernel
theorem dX5_flat_23 : decode cX5_flat 23 = .ok (.ireturn, 1) := by decide +kernel
theorem dX5_flat_24 : decode cX5_flat 24 = .ok (.aload_n 0, 1) := by decide +kernel
theorem dX5_flat_25 : decode cX5_flat 25 = .ok (.getfield 31, 3) := by decide +kernel
theorem dX5_flat_28 : decode cX5_flat 28 = .ok (.getfield 127, 3) := by decide +kernel
theorem dX5_flat_31 : decode cX5_flat 31 = .ok (.ifCond .ne 6, 3) := by decide +kernel
theorem dX5_flat_34 : decode cX5_flat 34 = .ok (.bipush (-4), 2) := by decide +kernel
theorem dX5_flat_36 : decode cX5_flat 36 = .ok (.ireturn, 1) := by decide +kernel
theorem dX5_flat_37 : decode cX5_flat 37 = .ok (.aload_n 0, 1) := by decide +kernel
theorem dX5_flat_38 : decode cX5_flat 38 = .ok (.getfield 47, 3) := by decide +kernel
theorem dX5_flat_41 : decode cX5_flat 41 = .ok (.iload_n 1, 1) := by decide +kernel
theorem dX5_flat_42 : decode cX5_flat 42 = .ok (.invokevirtual 214, 3) := by decide +kernel
theorem dX5_flat_45 : decode cX5_flat 45 = .ok (.iconst 0, 1) := by decide +kernel
theorem dX5_flat_46 : decode cX5_flat 46 = .ok (.istore_n 3, 1) := by decide +kernel
theorem dX5_flat_47 : decode cX5_flat 47 = .ok (.iload_n 3, 1) := by decide +kernel
theorem dX5_flat_48 : decode cX5_flat 48 = .ok (.iconst 3, 1) := by decide +kernel
theorem dX5_flat_49 : decode cX5_flat 49 = .ok (.if_icmp .gt 42, 3) := by decide +kernel
theorem dX5_flat_52 : decode cX5_flat 52 = .ok (.aload_n 0, 1) := by decide +kernel
theorem dX5_flat_53 : decode cX5_flat 53 = .ok (.getfield 47, 3) := by decide +kernel
theorem dX5_flat_56 : decode cX5_flat 56 = .ok (.iload_n 3, 1) := by decide +kernel
theorem dX5_flat_57 : decode cX5_flat 57 = .ok (.invokevirtual 217, 3) := by decide +kernel
theorem dX5_flat_60 : decode cX5_flat 60 = .ok (.ifCond .ne 6, 3) := by decide +kernel
theorem dX5_flat_63 : decode cX5_flat 63 = .ok (.goto 22, 3) := by decide +kernel
theorem dX5_flat_66 : decode cX5_flat 66 = .ok (.aload_n 0, 1) := by decide +kernel
theorem dX5_flat_67 : decode cX5_flat 67 = .ok (.iload_n 2, 1) := by decide +kernel
theorem dX5_flat_68 : decode cX5_flat 68 = .ok (.iload_n 3, 1) := by decide +kernel
theorem dX5_flat_69 : decode cX5_flat 69 = .ok (.invokevirtual 220, 3) := by decide +kernel
theorem dX5_flat_72 : decode cX5_flat 72 = .ok (.aload_n 0, 1) := by decide +kernel
theorem dX5_flat_73 : decode cX5_flat 73 = .ok (.iload_n 3, 1) := by decide +kernel
theorem dX5_flat_74 : decode cX5_flat 74 = .ok (.aload_n 0, 1) := by decide +kernel
theorem dX5_flat_75 : decode cX5_flat 75 = .ok (.getfield 47, 3) := by decide +kernel
theorem dX5_flat_78 : decode cX5_flat 78 = .ok (.getfield 223, 3) := by decide +kernel
theorem dX5_flat_81 : decode cX5_flat 81 = .ok (.invokevirtual 90, 3) := by decide +kernel
theorem dX5_flat_84 : decode cX5_flat 84 = .ok (.ireturn, 1) := by decide +kernel
theorem dX5_flat_85 : decode cX5_flat 85 = .ok (.iinc 3 1, 3) := by decide +kernel
theorem dX5_flat_88 : decode cX5_flat 88 = .ok (.goto (-41), 3) := by decide +kernel
theorem dX5_flat_91 : decode cX5_flat 91 = .ok (.bipush (-9), 2) := by decide +kernel
theorem dX5_flat_93 : decode cX5_flat 93 = .ok (.ireturn, 1) := by decide +kernel
theorem dX5_raise_0 : decode cX5_raise 0 = .ok (.aload_n 0, 1) := by decide +kernel
theorem dX5_raise_1 : decode cX5_raise 1 = .ok (.getfield 31, 3) := by decide +kernel
theorem dX5_raise_4 : decode cX5_raise 4 = .ok (.iload_n 1, 1) := by decide +kernel
theorem dX5_raise_5 : decode cX5_raise 5 = .ok (.invokevirtual 130, 3) := by decide +kernel
theorem dX5_raise_8 : decode cX5_raise 8 = .ok (.ifCond .eq 13, 3) := by decide +kernel
theorem dX5_raise_11 : decode cX5_raise 11 = .ok (.iload_n 2, 1) := by decide +kernel
theorem dX5_raise_12 : decode cX5_raise 12 = .ok (.ifCond .lt 9, 3) := by decide +kernel
theorem dX5_raise_15 : decode cX5_raise 15 = .ok (.iload_n 2, 1) := by decide +kernel
theorem dX5_raise_16 : decode cX5_raise 16 = .ok (.bipush 99, 2) := by decide +kernel
theorem dX5_raise_18 : decode cX5_raise 18 = .ok (.if_icmp .le 5, 3) := by decide +kernel
theorem dX5_raise_21 : decode cX5_raise 21 = .ok (.iconst (-1), 1) := by decide +kernel
theorem dX5_raise_22 : decode cX5_raise 22 = .ok (.ireturn, 1) := by decide +kernel
theorem dX5_raise_23 : decode cX5_raise 23 = .ok (.iload_n 3, 1) := by decide +kernel
theorem dX5_raise_24 : decode cX5_raise 24 = .ok (.ifCond .lt 20, 3) := by decide +kernel
theorem dX5_raise_27 : decode cX5_raise 27 = .ok (.iload_n 3, 1) := by decide +kernel
theorem dX5_raise_28 : decode cX5_raise 28 = .ok (.iconst 3, 1) := by decide +kernel
theorem dX5_raise_29 : decode cX5_raise 29 = .ok (.if_icmp .gt 15, 3) := by decide +kernel
theorem dX5_raise_32 : decode cX5_raise 32 = .ok (.aload_n 0, 1) := by decide +kernel
theorem dX5_raise_33 : decode cX5_raise 33 = .ok (.getfield 14, 3) := by decide +kernel
theorem dX5_raise_36 : decode cX5_raise 36 = .ok (.iload 4, 2) := by decide +kernel
theorem dX5_raise_38 : decode cX5_raise 38 = .ok (.invokevirtual 74, 3) := by decide +kernel
theorem dX5_raise_41 : decode cX5_raise 41 = .ok (.ifCond .ne 5, 3) := by decide +kernel
theorem dX5_raise_44 : decode cX5_raise 44 = .ok (.iconst (-1), 1) := by decide +kernel
theorem dX5_raise_45 : decode cX5_raise 45 = .ok (.ireturn, 1) := by decide +kernel
theorem dX5_raise_46 : decode cX5_raise 46 = .ok (.aload_n 0, 1) := by decide +kernel
theorem dX5_raise_47 : decode cX5_raise 47 = .ok (.getfield 47, 3) := by decide +kernel
theorem dX5_raise_50 : decode cX5_raise 50 = .ok (.iload_n 1, 1) := by decide +kernel
theorem dX5_raise_51 : decode cX5_raise 51 = .ok (.iload_n 2, 1) := by decide +kernel
theorem dX5_raise_52 : decode cX5_raise 52 = .ok (.invokevirtual 226, 3) := by decide +kernel
theorem dX5_raise_55 : decode cX5_raise 55 = .ok (.aload_n 0, 1) := by decide +kernel
theorem dX5_raise_56 : decode cX5_raise 56 = .ok (.getfield 47, 3) := by decide +kernel
theorem dX5_raise_59 : decode cX5_raise 59 = .ok (.iload_n 3, 1) := by decide +kernel
theorem dX5_raise_60 : decode cX5_raise 60 = .ok (.invokevirtual 217, 3) := by decide +kernel
theorem dX5_raise_63 : decode cX5_raise 63 = .ok (.ifCond .ne 6, 3) := by decide +kernel
theorem dX5_raise_66 : decode cX5_raise 66 = .ok (.bipush (-9), 2) := by decide +kernel
theorem dX5_raise_68 : decode cX5_raise 68 = .ok (.ireturn, 1) := by decide +kernel
theorem dX5_raise_69 : decode cX5_raise 69 = .ok (.aload_n 0, 1) := by decide +kernel
theorem dX5_raise_70 : decode cX5_raise 70 = .ok (.iload 4, 2) := by decide +kernel
theorem dX5_raise_72 : decode cX5_raise 72 = .ok (.iload_n 3, 1) := by decide +kernel
theorem dX5_raise_73 : decode cX5_raise 73 = .ok (.invokevirtual 220, 3) := by decide +kernel
theorem dX5_raise_76 : decode cX5_raise 76 = .ok (.aload_n 0, 1) := by decide +kernel
theorem dX5_raise_77 : decode cX5_raise 77 = .ok (.getfield 47, 3) := by decide +kernel
theorem dX5_raise_80 : decode cX5_raise 80 = .ok (.getfield 223, 3) := by decide +kernel
theorem dX5_raise_83 : decode cX5_raise 83 = .ok (.ireturn, 1) := by decide +kernel
theorem dX5_keeps_0 : decode cX5_keeps 0 = .ok (.aload_n 0, 1) := by decide +kernel
theorem dX5_keeps_1 : decode cX5_keeps 1 = .ok (.getfield 31, 3) := by decide +kernel
theorem dX5_keeps_4 : decode cX5_keeps 4 = .ok (.iload_n 1, 1) := by decide +kernel
theorem dX5_keeps_5 : decode cX5_keeps 5 = .ok (.invokevirtual 130, 3) := by decide +kernel
theorem dX5_keeps_8 : decode cX5_keeps 8 = .ok (.ifCond .ne 5, 3) := by decide +kernel
theorem dX5_keeps_11 : decode cX5_keeps 11 = .ok (.iconst (-1), 1) := by decide +kernel
theorem dX5_keeps_12 : decode cX5_keeps 12 = .ok (.ireturn, 1) := by decide +kernel
theorem dX5_keeps_13 : decode cX5_keeps 13 = .ok (.aload_n 0, 1) := by decide +kernel
theorem dX5_keeps_14 : decode cX5_keeps 14 = .ok (.getfield 40, 3) := by decide +kernel
theorem dX5_keeps_17 : decode cX5_keeps 17 = .ok (.iload_n 1, 1) := by decide +kernel
theorem dX5_keeps_18 : decode cX5_keeps 18 = .ok (.invokevirtual 229, 3) := by decide +kernel
theorem dX5_keeps_21 : decode cX5_keeps 21 = .ok (.istore_n 2, 1) := by decide +kernel
theorem dX5_keeps_22 : decode cX5_keeps 22 = .ok (.aload_n 0, 1) := by decide +kernel
theorem dX5_keeps_23 : decode cX5_keeps 23 = .ok (.aload_n 0, 1) := by decide +kernel
theorem dX5_keeps_24 : decode cX5_keeps 24 = .ok (.getfield 31, 3) := by decide +kernel
theorem dX5_keeps_27 : decode cX5_keeps 27 = .ok (.iload_n 2, 1) := by decide +kernel
theorem dX5_keeps_28 : decode cX5_keeps 28 = .ok (.invokevirtual 179, 3) := by decide +kernel
theorem dX5_keeps_31 : decode cX5_keeps 31 = .ok (.iload_n 2, 1) := by decide +kernel
theorem dX5_keeps_32 : decode cX5_keeps 32 = .ok (.invokevirtual 90, 3) := by decide +kernel
theorem dX5_keeps_35 : decode cX5_keeps 35 = .ok (.ireturn, 1) := by decide +kernel
theorem dX5_rivals_0 : decode cX5_rivals 0 = .ok (.aload_n 0, 1) := by decide +kernel
theorem dX5_rivals_1 : decode cX5_rivals 1 = .ok (.getfield 31, 3) := by decide +kernel
theorem dX5_rivals_4 : decode cX5_rivals 4 = .ok (.iload_n 1, 1) := by decide +kernel
theorem dX5_rivals_5 : decode cX5_rivals 5 = .ok (.invokevirtual 139, 3) := by decide +kernel
theorem dX5_rivals_8 : decode cX5_rivals 8 = .ok (.ifCond .eq 19, 3) := by decide +kernel
theorem dX5_rivals_11 : decode cX5_rivals 11 = .ok (.aload_n 0, 1) := by decide +kernel
theorem dX5_rivals_12 : decode cX5_rivals 12 = .ok (.getfield 31, 3) := by decide +kernel
theorem dX5_rivals_15 : decode cX5_rivals 15 = .ok (.iload_n 2, 1) := by decide +kernel
theorem dX5_rivals_16 : decode cX5_rivals 16 = .ok (.invokevirtual 139, 3) := by decide +kernel
theorem dX5_rivals_19 : decode cX5_rivals 19 = .ok (.ifCond .eq 8, 3) := by decide +kernel
theorem dX5_rivals_22 : decode cX5_rivals 22 = .ok (.iload_n 1, 1) := by decide +kernel
theorem dX5_rivals_23 : decode cX5_rivals 23 = .ok (.iload_n 2, 1) := by decide +kernel
theorem dX5_rivals_24 : decode cX5_rivals 24 = .ok (.if_icmp .ne 5, 3) := by decide +kernel
theorem dX5_rivals_27 : decode cX5_rivals 27 = .ok (.iconst (-1), 1) := by decide +kernel
theorem dX5_rivals_28 : decode cX5_rivals 28 = .ok (.ireturn, 1) := by decide +kernel
theorem dX5_rivals_29 : decode cX5_rivals 29 = .ok (.aload_n 0, 1) := by decide +kernel
theorem dX5_rivals_30 : decode cX5_rivals 30 = .ok (.getfield 31, 3) := by decide +kernel
theorem dX5_rivals_33 : decode cX5_rivals 33 = .ok (.iload_n 3, 1) := by decide +kernel
theorem dX5_rivals_34 : decode cX5_rivals 34 = .ok (.invokevirtual 130, 3) := by decide +kernel
theorem dX5_rivals_37 : decode cX5_rivals 37 = .ok (.ifCond .eq 15, 3) := by decide +kernel
theorem dX5_rivals_40 : decode cX5_rivals 40 = .ok (.iload 4, 2) := by decide +kernel
theorem dX5_rivals_42 : decode cX5_rivals 42 = .ok (.ifCond .lt 10, 3) := by decide +kernel
theorem dX5_rivals_45 : decode cX5_rivals 45 = .ok (.iload 4, 2) := by decide +kernel
theorem dX5_rivals_47 : decode cX5_rivals 47 = .ok (.bipush 6, 2) := by decide +kernel
theorem dX5_rivals_49 : decode cX5_rivals 49 = .ok (.if_icmp .le 5, 3) := by decide +kernel
theorem dX5_rivals_52 : decode cX5_rivals 52 = .ok (.iconst (-1), 1) := by decide +kernel
theorem dX5_rivals_53 : decode cX5_rivals 53 = .ok (.ireturn, 1) := by decide +kernel
theorem dX5_rivals_54 : decode cX5_rivals 54 = .ok (.aload_n 0, 1) := by decide +kernel
theorem dX5_rivals_55 : decode cX5_rivals 55 = .ok (.getfield 40, 3) := by decide +kernel
theorem dX5_rivals_58 : decode cX5_rivals 58 = .ok (.iload_n 1, 1) := by decide +kernel
theorem dX5_rivals_59 : decode cX5_rivals 59 = .ok (.iload_n 2, 1) := by decide +kernel
theorem dX5_rivals_60 : decode cX5_rivals 60 = .ok (.iload_n 3, 1) := by decide +kernel
theorem dX5_rivals_61 : decode cX5_rivals 61 = .ok (.iload 4, 2) := by decide +kernel
theorem dX5_rivals_63 : decode cX5_rivals 63 = .ok (.invokevirtual 232, 3) := by decide +kernel
theorem dX5_rivals_66 : decode cX5_rivals 66 = .ok (.istore 5, 2) := by decide +kernel
theorem dX5_rivals_68 : decode cX5_rivals 68 = .ok (.aload_n 0, 1) := by decide +kernel
theorem dX5_rivals_69 : decode cX5_rivals 69 = .ok (.iload 5, 2) := by decide +kernel
theorem dX5_rivals_71 : decode cX5_rivals 71 = .ok (.aload_n 0, 1) := by decide +kernel
theorem dX5_rivals_72 : decode cX5_rivals 72 = .ok (.getfield 40, 3) := by decide +kernel
theorem dX5_rivals_75 : decode cX5_rivals 75 = .ok (.getfield 236, 3) := by decide +kernel
theorem dX5_rivals_78 : decode cX5_rivals 78 = .ok (.invokevirtual 90, 3) := by decide +kernel
theorem dX5_rivals_81 : decode cX5_rivals 81 = .ok (.ireturn, 1) := by decide +kernel
theorem dX5_played_0 : decode cX5_played 0 = .ok (.aload_n 0, 1) := by decide +kernel
theorem dX5_played_1 : decode cX5_played 1 = .ok (.iload_n 1, 1) := by decide +kernel
theorem dX5_played_2 : decode cX5_played 2 = .ok (.invokevirtual 239, 3) := by decide +kernel
theorem dX5_played_5 : decode cX5_played 5 = .ok (.istore_n 2, 1) := by decide +kernel
theorem dX5_played_6 : decode cX5_played 6 = .ok (.iload_n 2, 1) := by decide +kernel
theorem dX5_played_7 : decode cX5_played 7 = .ok (.ifCond .eq 5, 3) := by decide +kernel
theorem dX5_played_10 : decode cX5_played 10 = .ok (.iload_n 2, 1) := by decide +kernel
theorem dX5_played_11 : decode cX5_played 11 = .ok (.ireturn, 1) := by decide +kernel
theorem dX5_played_12 : decode cX5_played 12 = .ok (.iconst 0, 1) := by decide +kernel
theorem dX5_played_13 : decode cX5_played 13 = .ok (.istore_n 3, 1) := by decide +kernel
theorem dX5_played_14 : decode cX5_played 14 = .ok (.bipush (-9), 2) := by decide +kernel
theorem dX5_played_16 : decode cX5_played 16 = .ok (.istore 4, 2) := by decide +kernel
theorem dX5_played_18 : decode cX5_played 18 = .ok (.aload_n 0, 1) := by decide +kernel
theorem dX5_played_19 : decode cX5_played 19 = .ok (.getfield 31, 3) := by decide +kernel
theorem dX5_played_22 : decode cX5_played 22 = .ok (.invokevirtual 242, 3) := by decide +kernel
theorem dX5_played_25 : decode cX5_played 25 = .ok (.istore 5, 2) := by decide +kernel
theorem dX5_played_27 : decode cX5_played 27 = .ok (.iconst 0, 1) := by decide +kernel
theorem dX5_played_28 : decode cX5_played 28 = .ok (.istore 6, 2) := by decide +kernel
theorem dX5_played_30 : decode cX5_played 30 = .ok (.iload 6, 2) := by decide +kernel
theorem dX5_played_32 : decode cX5_played 32 = .ok (.iload 5, 2) := by decide +kernel
theorem dX5_played_34 : decode cX5_played 34 = .ok (.if_icmp .ge 49, 3) := by decide +kernel
theorem dX5_played_37 : decode cX5_played 37 = .ok (.aload_n 0, 1) := by decide +kernel
theorem dX5_played_38 : decode cX5_played 38 = .ok (.getfield 40, 3) := by decide +kernel
theorem dX5_played_41 : decode cX5_played 41 = .ok (.iload 6, 2) := by decide +kernel
theorem dX5_played_43 : decode cX5_played 43 = .ok (.iconst 1, 1) := by decide +kernel
theorem dX5_played_44 : decode cX5_played 44 = .ok (.invokevirtual 195, 3) := by decide +kernel
theorem dX5_played_47 : decode cX5_played 47 = .ok (.pop, 1) := by decide +kernel
theorem dX5_played_48 : decode cX5_played 48 = .ok (.aload_n 0, 1) := by decide +kernel
theorem dX5_played_49 : decode cX5_played 49 = .ok (.iload_n 1, 1) := by decide +kernel
theorem dX5_played_50 : decode cX5_played 50 = .ok (.aload_n 0, 1) := by decide +kernel
theorem dX5_played_51 : decode cX5_played 51 = .ok (.getfield 40, 3) := by decide +kernel
theorem dX5_played_54 : decode cX5_played 54 = .ok (.getfield 198, 3) := by decide +kernel
theorem dX5_played_57 : decode cX5_played 57 = .ok (.invokevirtual 245, 3) := by decide +kernel
theorem dX5_played_60 : decode cX5_played 60 = .ok (.ifCond .ne 6, 3) := by decide +kernel
theorem dX5_played_63 : decode cX5_played 63 = .ok (.goto 14, 3) := by decide +kernel
theorem dX5_played_66 : decode cX5_played 66 = .ok (.iload_n 3, 1) := by decide +kernel
theorem dX5_played_67 : decode cX5_played 67 = .ok (.ifCond .ne 7, 3) := by decide +kernel
theorem dX5_played_70 : decode cX5_played 70 = .ok (.iload 6, 2) := by decide +kernel
theorem dX5_played_72 : decode cX5_played 72 = .ok (.istore 4, 2) := by decide +kernel
theorem dX5_played_74 : decode cX5_played 74 = .ok (.iinc 3 1, 3) := by decide +kernel
theorem dX5_played_77 : decode cX5_played 77 = .ok (.iinc 6 1, 3) := by decide +kernel
theorem dX5_played_80 : decode cX5_played 80 = .ok (.goto (-50), 3) := by decide +kernel
theorem dX5_played_83 : decode cX5_played 83 = .ok (.aload_n 0, 1) := by decide +kernel
theorem dX5_played_84 : decode cX5_played 84 = .ok (.iload_n 3, 1) := by decide +kernel
theorem dX5_played_85 : decode cX5_played 85 = .ok (.iload 4, 2) := by decide +kernel
theorem dX5_played_87 : decode cX5_played 87 = .ok (.invokevirtual 90, 3) := by decide +kernel
theorem dX5_played_90 : decode cX5_played 90 = .ok (.ireturn, 1) := by decide +kernel
theorem dX5_could_0 : decode cX5_could 0 = .ok (.aload_n 0, 1) := by decide +kernel
theorem dX5_could_1 : decode cX5_could 1 = .ok (.getfield 31, 3) := by decide +kernel
theorem dX5_could_4 : decode cX5_could 4 = .ok (.iload_n 1, 1) := by decide +kernel
theorem dX5_could_5 : decode cX5_could 5 = .ok (.invokevirtual 139, 3) := by decide +kernel
theorem dX5_could_8 : decode cX5_could 8 = .ok (.ifCond .eq 14, 3) := by decide +kernel
theorem dX5_could_11 : decode cX5_could 11 = .ok (.aload_n 0, 1) := by decide +kernel
theorem dX5_could_12 : decode cX5_could 12 = .ok (.getfield 14, 3) := by decide +kernel
theorem dX5_could_15 : decode cX5_could 15 = .ok (.iload_n 2, 1) := by decide +kernel
theorem dX5_could_16 : decode cX5_could 16 = .ok (.invokevirtual 74, 3) := by decide +kernel
theorem dX5_could_19 : decode cX5_could 19 = .ok (.ifCond .ne 5, 3) := by decide +kernel
theorem dX5_could_22 : decode cX5_could 22 = .ok (.iconst (-1), 1) := by decide +kernel
theorem dX5_could_23 : decode cX5_could 23 = .ok (.ireturn, 1) := by decide +kernel
theorem dX5_could_24 : decode cX5_could 24 = .ok (.aload_n 0, 1) := by decide +kernel
theorem dX5_could_25 : decode cX5_could 25 = .ok (.iload_n 2, 1) := by decide +kernel
theorem dX5_could_26 : decode cX5_could 26 = .ok (.invokevirtual 249, 3) := by decide +kernel
theorem dX5_could_29 : decode cX5_could 29 = .ok (.istore_n 3, 1) := by decide +kernel
theorem dX5_could_30 : decode cX5_could 30 = .ok (.iload_n 3, 1) := by decide +kernel
theorem dX5_could_31 : decode cX5_could 31 = .ok (.ifCond .eq 5, 3) := by decide +kernel
theorem dX5_could_34 : decode cX5_could 34 = .ok (.iload_n 3, 1) := by decide +kernel
theorem dX5_could_35 : decode cX5_could 35 = .ok (.ireturn, 1) := by decide +kernel
theorem dX5_could_36 : decode cX5_could 36 = .ok (.iconst 0, 1) := by decide +kernel
theorem dX5_could_37 : decode cX5_could 37 = .ok (.istore 4, 2) := by decide +kernel
theorem dX5_could_39 : decode cX5_could 39 = .ok (.aload_n 0, 1) := by decide +kernel
theorem dX5_could_40 : decode cX5_could 40 = .ok (.getfield 31, 3) := by decide +kernel
theorem dX5_could_43 : decode cX5_could 43 = .ok (.invokevirtual 242, 3) := by decide +kernel
theorem dX5_could_46 : decode cX5_could 46 = .ok (.istore 5, 2) := by decide +kernel
theorem dX5_could_48 : decode cX5_could 48 = .ok (.iconst 0, 1) := by decide +kernel
theorem dX5_could_49 : decode cX5_could 49 = .ok (.istore 6, 2) := by decide +kernel
theorem dX5_could_51 : decode cX5_could 51 = .ok (.iload 6, 2) := by decide +kernel
theorem dX5_could_53 : decode cX5_could 53 = .ok (.iload 5, 2) := by decide +kernel
theorem dX5_could_55 : decode cX5_could 55 = .ok (.if_icmp .ge 52, 3) := by decide +kernel
theorem dX5_could_58 : decode cX5_could 58 = .ok (.aload_n 0, 1) := by decide +kernel
theorem dX5_could_59 : decode cX5_could 59 = .ok (.getfield 40, 3) := by decide +kernel
theorem dX5_could_62 : decode cX5_could 62 = .ok (.iload 6, 2) := by decide +kernel
theorem dX5_could_64 : decode cX5_could 64 = .ok (.iconst 1, 1) := by decide +kernel
theorem dX5_could_65 : decode cX5_could 65 = .ok (.invokevirtual 195, 3) := by decide +kernel
theorem dX5_could_68 : decode cX5_could 68 = .ok (.pop, 1) := by decide +kernel
theorem dX5_could_69 : decode cX5_could 69 = .ok (.aload_n 0, 1) := by decide +kernel
theorem dX5_could_70 : decode cX5_could 70 = .ok (.iload_n 2, 1) := by decide +kernel
theorem dX5_could_71 : decode cX5_could 71 = .ok (.aload_n 0, 1) := by decide +kernel
theorem dX5_could_72 : decode cX5_could 72 = .ok (.getfield 40, 3) := by decide +kernel
theorem dX5_could_75 : decode cX5_could 75 = .ok (.getfield 198, 3) := by decide +kernel
theorem dX5_could_78 : decode cX5_could 78 = .ok (.invokevirtual 245, 3) := by decide +kernel
theorem dX5_could_81 : decode cX5_could 81 = .ok (.ifCond .eq 20, 3) := by decide +kernel
theorem dX5_could_84 : decode cX5_could 84 = .ok (.iload 4, 2) := by decide +kernel
theorem dX5_could_86 : decode cX5_could 86 = .ok (.iconst 1, 1) := by decide +kernel
theorem dX5_could_87 : decode cX5_could 87 = .ok (.aload_n 0, 1) := by decide +kernel
theorem dX5_could_88 : decode cX5_could 88 = .ok (.getfield 31, 3) := by decide +kernel
theorem dX5_could_91 : decode cX5_could 91 = .ok (.iload 6, 2) := by decide +kernel
theorem dX5_could_93 : decode cX5_could 93 = .ok (.iload_n 1, 1) := by decide +kernel
theorem dX5_could_94 : decode cX5_could 94 = .ok (.invokevirtual 252, 3) := by decide +kernel
theorem dX5_could_97 : decode cX5_could 97 = .ok (.ishl, 1) := by decide +kernel
theorem dX5_could_98 : decode cX5_could 98 = .ok (.ior, 1) := by decide +kernel
theorem dX5_could_99 : decode cX5_could 99 = .ok (.istore 4, 2) := by decide +kernel
theorem dX5_could_101 : decode cX5_could 101 = .ok (.iinc 6 1, 3) := by decide +kernel
theorem dX5_could_104 : decode cX5_could 104 = .ok (.goto (-53), 3) := by decide +kernel
theorem dX5_could_107 : decode cX5_could 107 = .ok (.iload 4, 2) := by decide +kernel
theorem dX5_could_109 : decode cX5_could 109 = .ok (.ireturn, 1) := by decide +kernel
theorem dX5_twice_0 : decode cX5_twice 0 = .ok (.aload_n 0, 1) := by decide +kernel
theorem dX5_twice_1 : decode cX5_twice 1 = .ok (.iload_n 1, 1) := by decide +kernel
theorem dX5_twice_2 : decode cX5_twice 2 = .ok (.invokevirtual 239, 3) := by decide +kernel
theorem dX5_twice_5 : decode cX5_twice 5 = .ok (.istore_n 2, 1) := by decide +kernel
theorem dX5_twice_6 : decode cX5_twice 6 = .ok (.iload_n 2, 1) := by decide +kernel
theorem dX5_twice_7 : decode cX5_twice 7 = .ok (.ifCond .eq 5, 3) := by decide +kernel
theorem dX5_twice_10 : decode cX5_twice 10 = .ok (.iload_n 2, 1) := by decide +kernel
theorem dX5_twice_11 : decode cX5_twice 11 = .ok (.ireturn, 1) := by decide +kernel
theorem dX5_twice_12 : decode cX5_twice 12 = .ok (.iconst 0, 1) := by decide +kernel
theorem dX5_twice_13 : decode cX5_twice 13 = .ok (.istore_n 3, 1) := by decide +kernel
theorem dX5_twice_14 : decode cX5_twice 14 = .ok (.bipush (-9), 2) := by decide +kernel
theorem dX5_twice_16 : decode cX5_twice 16 = .ok (.istore 4, 2) := by decide +kernel
theorem dX5_twice_18 : decode cX5_twice 18 = .ok (.aload_n 0, 1) := by decide +kernel
theorem dX5_twice_19 : decode cX5_twice 19 = .ok (.getfield 31, 3) := by decide +kernel
theorem dX5_twice_22 : decode cX5_twice 22 = .ok (.invokevirtual 242, 3) := by decide +kernel
theorem dX5_twice_25 : decode cX5_twice 25 = .ok (.istore 5, 2) := by decide +kernel
theorem dX5_twice_27 : decode cX5_twice 27 = .ok (.iconst 0, 1) := by decide +kernel
theorem dX5_twice_28 : decode cX5_twice 28 = .ok (.istore 6, 2) := by decide +kernel
theorem dX5_twice_30 : decode cX5_twice 30 = .ok (.iload 6, 2) := by decide +kernel
theorem dX5_twice_32 : decode cX5_twice 32 = .ok (.iload 5, 2) := by decide +kernel
theorem dX5_twice_34 : decode cX5_twice 34 = .ok (.if_icmp .ge 81, 3) := by decide +kernel
theorem dX5_twice_37 : decode cX5_twice 37 = .ok (.aload_n 0, 1) := by decide +kernel
theorem dX5_twice_38 : decode cX5_twice 38 = .ok (.getfield 40, 3) := by decide +kernel
theorem dX5_twice_41 : decode cX5_twice 41 = .ok (.iload 6, 2) := by decide +kernel
theorem dX5_twice_43 : decode cX5_twice 43 = .ok (.iconst 1, 1) := by decide +kernel
theorem dX5_twice_44 : decode cX5_twice 44 = .ok (.invokevirtual 195, 3) := by decide +kernel
theorem dX5_twice_47 : decode cX5_twice 47 = .ok (.pop, 1) := by decide +kernel
theorem dX5_twice_48 : decode cX5_twice 48 = .ok (.iconst 0, 1) := by decide +kernel
theorem dX5_twice_49 : decode cX5_twice 49 = .ok (.istore 7, 2) := by decide +kernel
theorem dX5_twice_51 : decode cX5_twice 51 = .ok (.iload 7, 2) := by decide +kernel
theorem dX5_twice_53 : decode cX5_twice 53 = .ok (.iload 5, 2) := by decide +kernel
theorem dX5_twice_55 : decode cX5_twice 55 = .ok (.if_icmp .ge 54, 3) := by decide +kernel
theorem dX5_twice_58 : decode cX5_twice 58 = .ok (.aload_n 0, 1) := by decide +kernel
theorem dX5_twice_59 : decode cX5_twice 59 = .ok (.getfield 40, 3) := by decide +kernel
theorem dX5_twice_62 : decode cX5_twice 62 = .ok (.iload 7, 2) := by decide +kernel
theorem dX5_twice_64 : decode cX5_twice 64 = .ok (.invokevirtual 255, 3) := by decide +kernel
theorem dX5_twice_67 : decode cX5_twice 67 = .ok (.aload_n 0, 1) := by decide +kernel
theorem dX5_twice_68 : decode cX5_twice 68 = .ok (.iload_n 1, 1) := by decide +kernel
theorem dX5_twice_69 : decode cX5_twice 69 = .ok (.aload_n 0, 1) := by decide +kernel
theorem dX5_twice_70 : decode cX5_twice 70 = .ok (.getfield 40, 3) := by decide +kernel
theorem dX5_twice_73 : decode cX5_twice 73 = .ok (.getfield 258, 3) := by decide +kernel
theorem dX5_twice_76 : decode cX5_twice 76 = .ok (.invokevirtual 245, 3) := by decide +kernel
theorem dX5_twice_79 : decode cX5_twice 79 = .ok (.ifCond .ne 6, 3) := by decide +kernel
theorem dX5_twice_82 : decode cX5_twice 82 = .ok (.goto 21, 3) := by decide +kernel
theorem dX5_twice_85 : decode cX5_twice 85 = .ok (.iload_n 3, 1) := by decide +kernel
theorem dX5_twice_86 : decode cX5_twice 86 = .ok (.ifCond .ne 14, 3) := by decide +kernel
theorem dX5_twice_89 : decode cX5_twice 89 = .ok (.sipush 1000, 3) := by decide +kernel
theorem dX5_twice_92 : decode cX5_twice 92 = .ok (.iload 6, 2) := by decide +kernel
theorem dX5_twice_94 : decode cX5_twice 94 = .ok (.imul, 1) := by decide +kernel
theorem dX5_twice_95 : decode cX5_twice 95 = .ok (.iload 7, 2) := by decide +kernel
theorem dX5_twice_97 : decode cX5_twice 97 = .ok (.iadd, 1) := by decide +kernel
theorem dX5_twice_98 : decode cX5_twice 98 = .ok (.istore 4, 2) := by decide +kernel
theorem dX5_twice_100 : decode cX5_twice 100 = .ok (.iinc 3 1, 3) := by decide +kernel
theorem dX5_twice_103 : decode cX5_twice 103 = .ok (.iinc 7 1, 3) := by decide +kernel
theorem dX5_twice_106 : decode cX5_twice 106 = .ok (.goto (-55), 3) := by decide +kernel
theorem dX5_twice_109 : decode cX5_twice 109 = .ok (.iinc 6 1, 3) := by decide +kernel
theorem dX5_twice_112 : decode cX5_twice 112 = .ok (.goto (-82), 3) := by decide +kernel
theorem dX5_twice_115 : decode cX5_twice 115 = .ok (.aload_n 0, 1) := by decide +kernel
theorem dX5_twice_116 : decode cX5_twice 116 = .ok (.iload_n 3, 1) := by decide +kernel
theorem dX5_twice_117 : decode cX5_twice 117 = .ok (.iload 4, 2) := by decide +kernel
theorem dX5_twice_119 : decode cX5_twice 119 = .ok (.invokevirtual 90, 3) := by decide +kernel
theorem dX5_twice_122 : decode cX5_twice 122 = .ok (.ireturn, 1) := by decide +kernel
theorem dX5_valleys_0 : decode cX5_valleys 0 = .ok (.iconst 0, 1) := by decide +kernel
theorem dX5_valleys_1 : decode cX5_valleys 1 = .ok (.istore_n 1, 1) := by decide +kernel
theorem dX5_valleys_2 : decode cX5_valleys 2 = .ok (.iconst 0, 1) := by decide +kernel
theorem dX5_valleys_3 : decode cX5_valleys 3 = .ok (.istore_n 2, 1) := by decide +kernel
theorem dX5_valleys_4 : decode cX5_valleys 4 = .ok (.iconst 0, 1) := by decide +kernel
theorem dX5_valleys_5 : decode cX5_valleys 5 = .ok (.istore_n 3, 1) := by decide +kernel
theorem dX5_valleys_6 : decode cX5_valleys 6 = .ok (.iconst 0, 1) := by decide +kernel
theorem dX5_valleys_7 : decode cX5_valleys 7 = .ok (.istore 4, 2) := by decide +kernel
theorem dX5_valleys_9 : decode cX5_valleys 9 = .ok (.iload 4, 2) := by decide +kernel
theorem dX5_valleys_11 : decode cX5_valleys 11 = .ok (.aload_n 0, 1) := by decide +kernel
theorem dX5_valleys_12 : decode cX5_valleys 12 = .ok (.getfield 31, 3) := by decide +kernel
theorem dX5_valleys_15 : decode cX5_valleys 15 = .ok (.getfield 127, 3) := by decide +kernel
theorem dX5_valleys_18 : decode cX5_valleys 18 = .ok (.if_icmp .ge 44, 3) := by decide +kernel
theorem dX5_valleys_21 : decode cX5_valleys 21 = .ok (.aload_n 0, 1) := by decide +kernel
theorem dX5_valleys_22 : decode cX5_valleys 22 = .ok (.getfield 31, 3) := by decide +kernel
theorem dX5_valleys_25 : decode cX5_valleys 25 = .ok (.getfield 136, 3) := by decide +kernel
theorem dX5_valleys_28 : decode cX5_valleys 28 = .ok (.iload 4, 2) := by decide +kernel
theorem dX5_valleys_30 : decode cX5_valleys 30 = .ok (.iaload, 1) := by decide +kernel
theorem dX5_valleys_31 : decode cX5_valleys 31 = .ok (.ifCond .ne 9, 3) := by decide +kernel
theorem dX5_valleys_34 : decode cX5_valleys 34 = .ok (.iload_n 2, 1) := by decide +kernel
theorem dX5_valleys_35 : decode cX5_valleys 35 = .ok (.iconst 1, 1) := by decide +kernel
theorem dX5_valleys_36 : decode cX5_valleys 36 = .ok (.iadd, 1) := by decide +kernel
theorem dX5_valleys_37 : decode cX5_valleys 37 = .ok (.goto 4, 3) := by decide +kernel
theorem dX5_valleys_40 : decode cX5_valleys 40 = .ok (.iconst 0, 1) := by decide +kernel
theorem dX5_valleys_41 : decode cX5_valleys 41 = .ok (.istore_n 2, 1) := by decide +kernel
theorem dX5_valleys_42 : decode cX5_valleys 42 = .ok (.iload_n 2, 1) := by decide +kernel
theorem dX5_valleys_43 : decode cX5_valleys 43 = .ok (.iconst 1, 1) := by decide +kernel
theorem dX5_valleys_44 : decode cX5_valleys 44 = .ok (.if_icmp .ne 6, 3) := by decide +kernel
theorem dX5_valleys_47 : decode cX5_valleys 47 = .ok (.iinc 1 1, 3) := by decide +kernel
theorem dX5_valleys_50 : decode cX5_valleys 50 = .ok (.iload_n 3, 1) := by decide +kernel
theorem dX5_valleys_51 : decode cX5_valleys 51 = .ok (.iload_n 2, 1) := by decide +kernel
theorem dX5_valleys_52 : decode cX5_valleys 52 = .ok (.invokestatic 261, 3) := by decide +kernel
theorem dX5_valleys_55 : decode cX5_valleys 55 = .ok (.istore_n 3, 1) := by decide +kernel
theorem dX5_valleys_56 : decode cX5_valleys 56 = .ok (.iinc 4 1, 3) := by decide +kernel
theorem dX5_valleys_59 : decode cX5_valleys 59 = .ok (.goto (-50), 3) := by decide +kernel
theorem dX5_valleys_62 : decode cX5_valleys 62 = .ok (.aload_n 0, 1) := by decide +kernel
theorem dX5_valleys_63 : decode cX5_valleys 63 = .ok (.iload_n 1, 1) := by decide +kernel
theorem dX5_valleys_64 : decode cX5_valleys 64 = .ok (.iload_n 3, 1) := by decide +kernel
theorem dX5_valleys_65 : decode cX5_valleys 65 = .ok (.invokevirtual 90, 3) := by decide +kernel
theorem dX5_valleys_68 : decode cX5_valleys 68 = .ok (.ireturn, 1) := by decide +kernel
theorem dX5_top_0 : decode cX5_top 0 = .ok (.aload_n 0, 1) := by decide +kernel
theorem dX5_top_1 : decode cX5_top 1 = .ok (.getfield 31, 3) := by decide +kernel
theorem dX5_top_4 : decode cX5_top 4 = .ok (.getfield 127, 3) := by decide +kernel
theorem dX5_top_7 : decode cX5_top 7 = .ok (.ifCond .ne 6, 3) := by decide +kernel
theorem dX5_top_10 : decode cX5_top 10 = .ok (.bipush (-4), 2) := by decide +kernel
theorem dX5_top_12 : decode cX5_top 12 = .ok (.ireturn, 1) := by decide +kernel
theorem dX5_top_13 : decode cX5_top 13 = .ok (.aload_n 0, 1) := by decide +kernel
theorem dX5_top_14 : decode cX5_top 14 = .ok (.getfield 31, 3) := by decide +kernel
theorem dX5_top_17 : decode cX5_top 17 = .ok (.aload_n 0, 1) := by decide +kernel
theorem dX5_top_18 : decode cX5_top 18 = .ok (.getfield 31, 3) := by decide +kernel
theorem dX5_top_21 : decode cX5_top 21 = .ok (.getfield 136, 3) := by decide +kernel
theorem dX5_top_24 : decode cX5_top 24 = .ok (.iconst 0, 1) := by decide +kernel
theorem dX5_top_25 : decode cX5_top 25 = .ok (.aload_n 0, 1) := by decide +kernel
theorem dX5_top_26 : decode cX5_top 26 = .ok (.getfield 31, 3) := by decide +kernel
theorem dX5_top_29 : decode cX5_top 29 = .ok (.getfield 127, 3) := by decide +kernel
theorem dX5_top_32 : decode cX5_top 32 = .ok (.iconst 1, 1) := by decide +kernel
theorem dX5_top_33 : decode cX5_top 33 = .ok (.isub, 1) := by decide +kernel
theorem dX5_top_34 : decode cX5_top 34 = .ok (.invokevirtual 266, 3) := by decide +kernel
theorem dX5_top_37 : decode cX5_top 37 = .ok (.istore_n 1, 1) := by decide +kernel
theorem dX5_top_38 : decode cX5_top 38 = .ok (.aload_n 0, 1) := by decide +kernel
theorem dX5_top_39 : decode cX5_top 39 = .ok (.iload_n 1, 1) := by decide +kernel
theorem dX5_top_40 : decode cX5_top 40 = .ok (.aload_n 0, 1) := by decide +kernel
theorem dX5_top_41 : decode cX5_top 41 = .ok (.getfield 31, 3) := by decide +kernel
theorem dX5_top_44 : decode cX5_top 44 = .ok (.getfield 136, 3) := by decide +kernel
theorem dX5_top_47 : decode cX5_top 47 = .ok (.iload_n 1, 1) := by decide +kernel
theorem dX5_top_48 : decode cX5_top 48 = .ok (.iaload, 1) := by decide +kernel
theorem dX5_top_49 : decode cX5_top 49 = .ok (.invokevirtual 90, 3) := by decide +kernel
theorem dX5_top_52 : decode cX5_top 52 = .ok (.ireturn, 1) := by decide +kernel
theorem dX5_border_0 : decode cX5_border 0 = .ok (.aload_n 0, 1) := by decide +kernel
theorem dX5_border_1 : decode cX5_border 1 = .ok (.iload_n 1, 1) := by decide +kernel
theorem dX5_border_2 : decode cX5_border 2 = .ok (.iload_n 2, 1) := by decide +kernel
theorem dX5_border_3 : decode cX5_border 3 = .ok (.invokevirtual 270, 3) := by decide +kernel
theorem dX5_border_6 : decode cX5_border 6 = .ok (.ifCond .ne 5, 3) := by decide +kernel
theorem dX5_border_9 : decode cX5_border 9 = .ok (.iconst (-1), 1) := by decide +kernel
theorem dX5_border_10 : decode cX5_border 10 = .ok (.ireturn, 1) := by decide +kernel
theorem dX5_border_11 : decode cX5_border 11 = .ok (.aload_n 0, 1) := by decide +kernel
theorem dX5_border_12 : decode cX5_border 12 = .ok (.getfield 31, 3) := by decide +kernel
theorem dX5_border_15 : decode cX5_border 15 = .ok (.aload_n 0, 1) := by decide +kernel
theorem dX5_border_16 : decode cX5_border 16 = .ok (.getfield 31, 3) := by decide +kernel
theorem dX5_border_19 : decode cX5_border 19 = .ok (.getfield 136, 3) := by decide +kernel
theorem dX5_border_22 : decode cX5_border 22 = .ok (.iload_n 1, 1) := by decide +kernel
theorem dX5_border_23 : decode cX5_border 23 = .ok (.iload_n 2, 1) := by decide +kernel
theorem dX5_border_24 : decode cX5_border 24 = .ok (.invokevirtual 266, 3) := by decide +kernel
theorem dX5_border_27 : decode cX5_border 27 = .ok (.istore_n 3, 1) := by decide +kernel
theorem dX5_border_28 : decode cX5_border 28 = .ok (.aload_n 0, 1) := by decide +kernel
theorem dX5_border_29 : decode cX5_border 29 = .ok (.iload_n 3, 1) := by decide +kernel
theorem dX5_border_30 : decode cX5_border 30 = .ok (.aload_n 0, 1) := by decide +kernel
theorem dX5_border_31 : decode cX5_border 31 = .ok (.getfield 31, 3) := by decide +kernel
theorem dX5_border_34 : decode cX5_border 34 = .ok (.getfield 136, 3) := by decide +kernel
theorem dX5_border_37 : decode cX5_border 37 = .ok (.iload_n 3, 1) := by decide +kernel
theorem dX5_border_38 : decode cX5_border 38 = .ok (.iaload, 1) := by decide +kernel
theorem dX5_border_39 : decode cX5_border 39 = .ok (.invokevirtual 90, 3) := by decide +kernel
theorem dX5_border_42 : decode cX5_border 42 = .ok (.ireturn, 1) := by decide +kernel
theorem dX5_shifts_0 : decode cX5_shifts 0 = .ok (.aload_n 0, 1) := by decide +kernel
theorem dX5_shifts_1 : decode cX5_shifts 1 = .ok (.iload_n 1, 1) := by decide +kernel
theorem dX5_shifts_2 : decode cX5_shifts 2 = .ok (.iload_n 2, 1) := by decide +kernel
theorem dX5_shifts_3 : decode cX5_shifts 3 = .ok (.invokevirtual 270, 3) := by decide +kernel
theorem dX5_shifts_6 : decode cX5_shifts 6 = .ok (.ifCond .ne 5, 3) := by decide +kernel
theorem dX5_shifts_9 : decode cX5_shifts 9 = .ok (.iconst (-1), 1) := by decide +kernel
theorem dX5_shifts_10 : decode cX5_shifts 10 = .ok (.ireturn, 1) := by decide +kernel
theorem dX5_shifts_11 : decode cX5_shifts 11 = .ok (.aload_n 0, 1) := by decide +kernel
theorem dX5_shifts_12 : decode cX5_shifts 12 = .ok (.getfield 31, 3) := by decide +kernel
theorem dX5_shifts_15 : decode cX5_shifts 15 = .ok (.aload_n 0, 1) := by decide +kernel
theorem dX5_shifts_16 : decode cX5_shifts 16 = .ok (.getfield 31, 3) := by decide +kernel
theorem dX5_shifts_19 : decode cX5_shifts 19 = .ok (.getfield 136, 3) := by decide +kernel
theorem dX5_shifts_22 : decode cX5_shifts 22 = .ok (.iload_n 1, 1) := by decide +kernel
theorem dX5_shifts_23 : decode cX5_shifts 23 = .ok (.iload_n 2, 1) := by decide +kernel
theorem dX5_shifts_24 : decode cX5_shifts 24 = .ok (.invokevirtual 266, 3) := by decide +kernel
theorem dX5_shifts_27 : decode cX5_shifts 27 = .ok (.istore_n 3, 1) := by decide +kernel
theorem dX5_shifts_28 : decode cX5_shifts 28 = .ok (.iconst 0, 1) := by decide +kernel
theorem dX5_shifts_29 : decode cX5_shifts 29 = .ok (.istore 4, 2) := by decide +kernel
theorem dX5_shifts_31 : decode cX5_shifts 31 = .ok (.bipush (-9), 2) := by decide +kernel
theorem dX5_shifts_33 : decode cX5_shifts 33 = .ok (.istore 5, 2) := by decide +kernel
theorem dX5_shifts_35 : decode cX5_shifts 35 = .ok (.aload_n 0, 1) := by decide +kernel
theorem dX5_shifts_36 : decode cX5_shifts 36 = .ok (.getfield 31, 3) := by decide +kernel
theorem dX5_shifts_39 : decode cX5_shifts 39 = .ok (.invokevirtual 242, 3) := by decide +kernel
theorem dX5_shifts_42 : decode cX5_shifts 42 = .ok (.istore 6, 2) := by decide +kernel
theorem dX5_shifts_44 : decode cX5_shifts 44 = .ok (.iconst 0, 1) := by decide +kernel
theorem dX5_shifts_45 : decode cX5_shifts 45 = .ok (.istore 7, 2) := by decide +kernel
theorem dX5_shifts_47 : decode cX5_shifts 47 = .ok (.iload 7, 2) := by decide +kernel
theorem dX5_shifts_49 : decode cX5_shifts 49 = .ok (.iload 6, 2) := by decide +kernel
theorem dX5_shifts_51 : decode cX5_shifts 51 = .ok (.if_icmp .ge 55, 3) := by decide +kernel
theorem dX5_shifts_54 : decode cX5_shifts 54 = .ok (.aload_n 0, 1) := by decide +kernel
theorem dX5_shifts_55 : decode cX5_shifts 55 = .ok (.getfield 40, 3) := by decide +kernel
theorem dX5_shifts_58 : decode cX5_shifts 58 = .ok (.iload 7, 2) := by decide +kernel
theorem dX5_shifts_60 : decode cX5_shifts 60 = .ok (.iconst 1, 1) := by decide +kernel
theorem dX5_shifts_61 : decode cX5_shifts 61 = .ok (.invokevirtual 195, 3) := by decide +kernel
theorem dX5_shifts_64 : decode cX5_shifts 64 = .ok (.pop, 1) := by decide +kernel
theorem dX5_shifts_65 : decode cX5_shifts 65 = .ok (.aload_n 0, 1) := by decide +kernel
theorem dX5_shifts_66 : decode cX5_shifts 66 = .ok (.getfield 31, 3) := by decide +kernel
theorem dX5_shifts_69 : decode cX5_shifts 69 = .ok (.aload_n 0, 1) := by decide +kernel
theorem dX5_shifts_70 : decode cX5_shifts 70 = .ok (.getfield 40, 3) := by decide +kernel
theorem dX5_shifts_73 : decode cX5_shifts 73 = .ok (.getfield 198, 3) := by decide +kernel
theorem dX5_shifts_76 : decode cX5_shifts 76 = .ok (.iload_n 1, 1) := by decide +kernel
theorem dX5_shifts_77 : decode cX5_shifts 77 = .ok (.iload_n 2, 1) := by decide +kernel
theorem dX5_shifts_78 : decode cX5_shifts 78 = .ok (.invokevirtual 266, 3) := by decide +kernel
theorem dX5_shifts_81 : decode cX5_shifts 81 = .ok (.iload_n 3, 1) := by decide +kernel
theorem dX5_shifts_82 : decode cX5_shifts 82 = .ok (.if_icmp .ne 6, 3) := by decide +kernel
theorem dX5_shifts_85 : decode cX5_shifts 85 = .ok (.goto 15, 3) := by decide +kernel
theorem dX5_shifts_88 : decode cX5_shifts 88 = .ok (.iload 4, 2) := by decide +kernel
theorem dX5_shifts_90 : decode cX5_shifts 90 = .ok (.ifCond .ne 7, 3) := by decide +kernel
theorem dX5_shifts_93 : decode cX5_shifts 93 = .ok (.iload 7, 2) := by decide +kernel
theorem dX5_shifts_95 : decode cX5_shifts 95 = .ok (.istore 5, 2) := by decide +kernel
theorem dX5_shifts_97 : decode cX5_shifts 97 = .ok (.iinc 4 1, 3) := by decide +kernel
theorem dX5_shifts_100 : decode cX5_shifts 100 = .ok (.iinc 7 1, 3) := by decide +kernel
theorem dX5_shifts_103 : decode cX5_shifts 103 = .ok (.goto (-56), 3) := by decide +kernel
theorem dX5_shifts_106 : decode cX5_shifts 106 = .ok (.aload_n 0, 1) := by decide +kernel
theorem dX5_shifts_107 : decode cX5_shifts 107 = .ok (.iload 4, 2) := by decide +kernel
theorem dX5_shifts_109 : decode cX5_shifts 109 = .ok (.iload 5, 2) := by decide +kernel
theorem dX5_shifts_111 : decode cX5_shifts 111 = .ok (.invokevirtual 90, 3) := by decide +kernel
theorem dX5_shifts_114 : decode cX5_shifts 114 = .ok (.ireturn, 1) := by decide +kernel
theorem dX5_far_0 : decode cX5_far 0 = .ok (.aload_n 0, 1) := by decide +kernel
theorem dX5_far_1 : decode cX5_far 1 = .ok (.iload_n 1, 1) := by decide +kernel
theorem dX5_far_2 : decode cX5_far 2 = .ok (.invokevirtual 239, 3) := by decide +kernel
theorem dX5_far_5 : decode cX5_far 5 = .ok (.istore_n 2, 1) := by decide +kernel
theorem dX5_far_6 : decode cX5_far 6 = .ok (.iload_n 2, 1) := by decide +kernel
theorem dX5_far_7 : decode cX5_far 7 = .ok (.ifCond .eq 5, 3) := by decide +kernel
theorem dX5_far_10 : decode cX5_far 10 = .ok (.iload_n 2, 1) := by decide +kernel
theorem dX5_far_11 : decode cX5_far 11 = .ok (.ireturn, 1) := by decide +kernel
theorem dX5_far_12 : decode cX5_far 12 = .ok (.iconst 0, 1) := by decide +kernel
theorem dX5_far_13 : decode cX5_far 13 = .ok (.istore_n 3, 1) := by decide +kernel
theorem dX5_far_14 : decode cX5_far 14 = .ok (.iload_n 3, 1) := by decide +kernel
theorem dX5_far_15 : decode cX5_far 15 = .ok (.aload_n 0, 1) := by decide +kernel
theorem dX5_far_16 : decode cX5_far 16 = .ok (.getfield 31, 3) := by decide +kernel
theorem dX5_far_19 : decode cX5_far 19 = .ok (.getfield 127, 3) := by decide +kernel
theorem dX5_far_22 : decode cX5_far 22 = .ok (.if_icmp .ge 27, 3) := by decide +kernel
theorem dX5_far_25 : decode cX5_far 25 = .ok (.aload_n 0, 1) := by decide +kernel
theorem dX5_far_26 : decode cX5_far 26 = .ok (.getfield 14, 3) := by decide +kernel
theorem dX5_far_29 : decode cX5_far 29 = .ok (.iload_n 1, 1) := by decide +kernel
theorem dX5_far_30 : decode cX5_far 30 = .ok (.iload_n 3, 1) := by decide +kernel
theorem dX5_far_31 : decode cX5_far 31 = .ok (.invokevirtual 82, 3) := by decide +kernel
theorem dX5_far_34 : decode cX5_far 34 = .ok (.ifCond .ge 9, 3) := by decide +kernel
theorem dX5_far_37 : decode cX5_far 37 = .ok (.aload_n 0, 1) := by decide +kernel
theorem dX5_far_38 : decode cX5_far 38 = .ok (.iconst 3, 1) := by decide +kernel
theorem dX5_far_39 : decode cX5_far 39 = .ok (.invokevirtual 96, 3) := by decide +kernel
theorem dX5_far_42 : decode cX5_far 42 = .ok (.ireturn, 1) := by decide +kernel
theorem dX5_far_43 : decode cX5_far 43 = .ok (.iinc 3 1, 3) := by decide +kernel
theorem dX5_far_46 : decode cX5_far 46 = .ok (.goto (-32), 3) := by decide +kernel
theorem dX5_far_49 : decode cX5_far 49 = .ok (.aload_n 0, 1) := by decide +kernel
theorem dX5_far_50 : decode cX5_far 50 = .ok (.getfield 14, 3) := by decide +kernel
theorem dX5_far_53 : decode cX5_far 53 = .ok (.iload_n 1, 1) := by decide +kernel
theorem dX5_far_54 : decode cX5_far 54 = .ok (.invokevirtual 115, 3) := by decide +kernel
theorem dX5_far_57 : decode cX5_far 57 = .ok (.aload_n 0, 1) := by decide +kernel
theorem dX5_far_58 : decode cX5_far 58 = .ok (.getfield 31, 3) := by decide +kernel
theorem dX5_far_61 : decode cX5_far 61 = .ok (.invokevirtual 188, 3) := by decide +kernel
theorem dX5_far_64 : decode cX5_far 64 = .ok (.i2l, 1) := by decide +kernel
theorem dX5_far_65 : decode cX5_far 65 = .ok (.lcmp, 1) := by decide +kernel
theorem dX5_far_66 : decode cX5_far 66 = .ok (.ifCond .eq 9, 3) := by decide +kernel
theorem dX5_far_69 : decode cX5_far 69 = .ok (.aload_n 0, 1) := by decide +kernel
theorem dX5_far_70 : decode cX5_far 70 = .ok (.iconst 4, 1) := by decide +kernel
theorem dX5_far_71 : decode cX5_far 71 = .ok (.invokevirtual 96, 3) := by decide +kernel
theorem dX5_far_74 : decode cX5_far 74 = .ok (.ireturn, 1) := by decide +kernel
theorem dX5_far_75 : decode cX5_far 75 = .ok (.iconst 0, 1) := by decide +kernel
theorem dX5_far_76 : decode cX5_far 76 = .ok (.istore_n 3, 1) := by decide +kernel
theorem dX5_far_77 : decode cX5_far 77 = .ok (.iconst 0, 1) := by decide +kernel
theorem dX5_far_78 : decode cX5_far 78 = .ok (.istore 4, 2) := by decide +kernel
theorem dX5_far_80 : decode cX5_far 80 = .ok (.iconst 0, 1) := by decide +kernel
theorem dX5_far_81 : decode cX5_far 81 = .ok (.istore 5, 2) := by decide +kernel
theorem dX5_far_83 : decode cX5_far 83 = .ok (.iload 5, 2) := by decide +kernel
theorem dX5_far_85 : decode cX5_far 85 = .ok (.aload_n 0, 1) := by decide +kernel
theorem dX5_far_86 : decode cX5_far 86 = .ok (.getfield 31, 3) := by decide +kernel
theorem dX5_far_89 : decode cX5_far 89 = .ok (.getfield 127, 3) := by decide +kernel
theorem dX5_far_92 : decode cX5_far 92 = .ok (.if_icmp .ge 42, 3) := by decide +kernel
theorem dX5_far_95 : decode cX5_far 95 = .ok (.iload_n 3, 1) := by decide +kernel
theorem dX5_far_96 : decode cX5_far 96 = .ok (.aload_n 0, 1) := by decide +kernel
theorem dX5_far_97 : decode cX5_far 97 = .ok (.getfield 31, 3) := by decide +kernel
theorem dX5_far_100 : decode cX5_far 100 = .ok (.getfield 136, 3) := by decide +kernel
theorem dX5_far_103 : decode cX5_far 103 = .ok (.iload 5, 2) := by decide +kernel
theorem dX5_far_105 : decode cX5_far 105 = .ok (.iaload, 1) := by decide +kernel
theorem dX5_far_106 : decode cX5_far 106 = .ok (.aload_n 0, 1) := by decide +kernel
theorem dX5_far_107 : decode cX5_far 107 = .ok (.getfield 14, 3) := by decide +kernel
theorem dX5_far_110 : decode cX5_far 110 = .ok (.iload_n 1, 1) := by decide +kernel
theorem dX5_far_111 : decode cX5_far 111 = .ok (.iload 5, 2) := by decide +kernel
theorem dX5_far_113 : decode cX5_far 113 = .ok (.invokevirtual 82, 3) := by decide +kernel
theorem dX5_far_116 : decode cX5_far 116 = .ok (.isub, 1) := by decide +kernel
theorem dX5_far_117 : decode cX5_far 117 = .ok (.iadd, 1) := by decide +kernel
theorem dX5_far_118 : decode cX5_far 118 = .ok (.istore_n 3, 1) := by decide +kernel
theorem dX5_far_119 : decode cX5_far 119 = .ok (.iload 4, 2) := by decide +kernel
theorem dX5_far_121 : decode cX5_far 121 = .ok (.iload_n 3, 1) := by decide +kernel
theorem dX5_far_122 : decode cX5_far 122 = .ok (.invokestatic 273, 3) := by decide +kernel
theorem dX5_far_125 : decode cX5_far 125 = .ok (.iadd, 1) := by decide +kernel
theorem dX5_far_126 : decode cX5_far 126 = .ok (.istore 4, 2) := by decide +kernel
theorem dX5_far_128 : decode cX5_far 128 = .ok (.iinc 5 1, 3) := by decide +kernel
theorem dX5_far_131 : decode cX5_far 131 = .ok (.goto (-48), 3) := by decide +kernel
theorem dX5_far_134 : decode cX5_far 134 = .ok (.iload 4, 2) := by decide +kernel
theorem dX5_far_136 : decode cX5_far 136 = .ok (.ireturn, 1) := by decide +kernel
theorem dX5_season_0 : decode cX5_season 0 = .ok (.iload_n 1, 1) := by decide +kernel
theorem dX5_season_1 : decode cX5_season 1 = .ok (.iconst 1, 1) := by decide +kernel
theorem dX5_season_2 : decode cX5_season 2 = .ok (.if_icmp .lt 21, 3) := by decide +kernel
theorem dX5_season_5 : decode cX5_season 5 = .ok (.iload_n 1, 1) := by decide +kernel
theorem dX5_season_6 : decode cX5_season 6 = .ok (.bipush 40, 2) := by decide +kernel
theorem dX5_season_8 : decode cX5_season 8 = .ok (.if_icmp .gt 15, 3) := by decide +kernel
theorem dX5_season_11 : decode cX5_season 11 = .ok (.iload_n 2, 1) := by decide +kernel
theorem dX5_season_12 : decode cX5_season 12 = .ok (.iconst 1, 1) := by decide +kernel
theorem dX5_season_13 : decode cX5_season 13 = .ok (.if_icmp .lt 10, 3) := by decide +kernel
theorem dX5_season_16 : decode cX5_season 16 = .ok (.iload_n 2, 1) := by decide +kernel
theorem dX5_season_17 : decode cX5_season 17 = .ok (.ldc_w 276, 3) := by decide +kernel
theorem dX5_season_20 : decode cX5_season 20 = .ok (.if_icmp .le 5, 3) := by decide +kernel
theorem dX5_season_23 : decode cX5_season 23 = .ok (.iconst (-1), 1) := by decide +kernel
theorem dX5_season_24 : decode cX5_season 24 = .ok (.ireturn, 1) := by decide +kernel
theorem dX5_season_25 : decode cX5_season 25 = .ok (.aload_n 0, 1) := by decide +kernel
theorem dX5_season_26 : decode cX5_season 26 = .ok (.getfield 31, 3) := by decide +kernel
theorem dX5_season_29 : decode cX5_season 29 = .ok (.invokevirtual 242, 3) := by decide +kernel
theorem dX5_season_32 : decode cX5_season 32 = .ok (.istore_n 3, 1) := by decide +kernel
theorem dX5_season_33 : decode cX5_season 33 = .ok (.aload_n 0, 1) := by decide +kernel
theorem dX5_season_34 : decode cX5_season 34 = .ok (.getfield 31, 3) := by decide +kernel
theorem dX5_season_37 : decode cX5_season 37 = .ok (.getfield 127, 3) := by decide +kernel
theorem dX5_season_40 : decode cX5_season 40 = .ok (.ifCond .eq 8, 3) := by decide +kernel
theorem dX5_season_43 : decode cX5_season 43 = .ok (.iload_n 3, 1) := by decide +kernel
theorem dX5_season_44 : decode cX5_season 44 = .ok (.iconst 1, 1) := by decide +kernel
theorem dX5_season_45 : decode cX5_season 45 = .ok (.if_icmp .ge 6, 3) := by decide +kernel
theorem dX5_season_48 : decode cX5_season 48 = .ok (.bipush (-4), 2) := by decide +kernel
theorem dX5_season_50 : decode cX5_season 50 = .ok (.ireturn, 1) := by decide +kernel
theorem dX5_season_51 : decode cX5_season 51 = .ok (.aload_n 0, 1) := by decide +kernel
theorem dX5_season_52 : decode cX5_season 52 = .ok (.getfield 31, 3) := by decide +kernel
theorem dX5_season_55 : decode cX5_season 55 = .ok (.getfield 173, 3) := by decide +kernel
theorem dX5_season_58 : decode cX5_season 58 = .ok (.iload_n 1, 1) := by decide +kernel
theorem dX5_season_59 : decode cX5_season 59 = .ok (.iadd, 1) := by decide +kernel
theorem dX5_season_60 : decode cX5_season 60 = .ok (.bipush 60, 2) := by decide +kernel
theorem dX5_season_62 : decode cX5_season 62 = .ok (.if_icmp .le 6, 3) := by decide +kernel
theorem dX5_season_65 : decode cX5_season 65 = .ok (.bipush (-2), 2) := by decide +kernel
theorem dX5_season_67 : decode cX5_season 67 = .ok (.ireturn, 1) := by decide +kernel
theorem dX5_season_68 : decode cX5_season 68 = .ok (.iload_n 2, 1) := by decide +kernel
theorem dX5_season_69 : decode cX5_season 69 = .ok (.i2l, 1) := by decide +kernel
theorem dX5_season_70 : decode cX5_season 70 = .ok (.lstore 4, 2) := by decide +kernel
theorem dX5_season_72 : decode cX5_season 72 = .ok (.iconst 0, 1) := by decide +kernel
theorem dX5_season_73 : decode cX5_season 73 = .ok (.istore 6, 2) := by decide +kernel
theorem dX5_season_75 : decode cX5_season 75 = .ok (.iconst 0, 1) := by decide +kernel
theorem dX5_season_76 : decode cX5_season 76 = .ok (.istore 7, 2) := by decide +kernel
theorem dX5_season_78 : decode cX5_season 78 = .ok (.iload 7, 2) := by decide +kernel
theorem dX5_season_80 : decode cX5_season 80 = .ok (.iload_n 1, 1) := by decide +kernel
theorem dX5_season_81 : decode cX5_season 81 = .ok (.if_icmp .ge 52, 3) := by decide +kernel
theorem dX5_season_84 : decode cX5_season 84 = .ok (.ldc2_w 277, 3) := by decide +kernel
theorem dX5_season_87 : decode cX5_season 87 = .ok (.lload 4, 2) := by decide +kernel
theorem dX5_season_89 : decode cX5_season 89 = .ok (.lmul, 1) := by decide +kernel
theorem dX5_season_90 : decode cX5_season 90 = .ok (.ldc2_w 279, 3) := by decide +kernel
theorem dX5_season_93 : decode cX5_season 93 = .ok (.lrem, 1) := by decide +kernel
theorem dX5_season_94 : decode cX5_season 94 = .ok (.lstore 4, 2) := by decide +kernel
theorem dX5_season_96 : decode cX5_season 96 = .ok (.aload_n 0, 1) := by decide +kernel
theorem dX5_season_97 : decode cX5_season 97 = .ok (.getfield 31, 3) := by decide +kernel
theorem dX5_season_100 : decode cX5_season 100 = .ok (.aload_n 0, 1) := by decide +kernel
theorem dX5_season_101 : decode cX5_season 101 = .ok (.lload 4, 2) := by decide +kernel
theorem dX5_season_103 : decode cX5_season 103 = .ok (.invokevirtual 281, 3) := by decide +kernel
theorem dX5_season_106 : decode cX5_season 106 = .ok (.putfield 167, 3) := by decide +kernel
theorem dX5_season_109 : decode cX5_season 109 = .ok (.iload 6, 2) := by decide +kernel
theorem dX5_season_111 : decode cX5_season 111 = .ok (.aload_n 0, 1) := by decide +kernel
theorem dX5_season_112 : decode cX5_season 112 = .ok (.getfield 31, 3) := by decide +kernel
theorem dX5_season_115 : decode cX5_season 115 = .ok (.lload 4, 2) := by decide +kernel
theorem dX5_season_117 : decode cX5_season 117 = .ok (.iload_n 3, 1) := by decide +kernel
theorem dX5_season_118 : decode cX5_season 118 = .ok (.i2l, 1) := by decide +kernel
theorem dX5_season_119 : decode cX5_season 119 = .ok (.lrem, 1) := by decide +kernel
theorem dX5_season_120 : decode cX5_season 120 = .ok (.l2i, 1) := by decide +kernel
theorem dX5_season_121 : decode cX5_season 121 = .ok (.invokevirtual 176, 3) := by decide +kernel
theorem dX5_season_124 : decode cX5_season 124 = .ok (.iadd, 1) := by decide +kernel
theorem dX5_season_125 : decode cX5_season 125 = .ok (.istore 6, 2) := by decide +kernel
theorem dX5_season_127 : decode cX5_season 127 = .ok (.iinc 7 1, 3) := by decide +kernel
theorem dX5_season_130 : decode cX5_season 130 = .ok (.goto (-52), 3) := by decide +kernel
theorem dX5_season_133 : decode cX5_season 133 = .ok (.iload 6, 2) := by decide +kernel
theorem dX5_season_135 : decode cX5_season 135 = .ok (.ireturn, 1) := by decide +kernel
theorem dX5_asked_0 : decode cX5_asked 0 = .ok (.aload_n 0, 1) := by decide +kernel
theorem dX5_asked_1 : decode cX5_asked 1 = .ok (.getfield 67, 3) := by decide +kernel
theorem dX5_asked_4 : decode cX5_asked 4 = .ok (.ireturn, 1) := by decide +kernel
theorem dX5_upper_0 : decode cX5_upper 0 = .ok (.aload_n 0, 1) := by decide +kernel
theorem dX5_upper_1 : decode cX5_upper 1 = .ok (.getfield 31, 3) := by decide +kernel
theorem dX5_upper_4 : decode cX5_upper 4 = .ok (.invokevirtual 188, 3) := by decide +kernel
theorem dX5_upper_7 : decode cX5_upper 7 = .ok (.istore_n 1, 1) := by decide +kernel
theorem dX5_upper_8 : decode cX5_upper 8 = .ok (.iload_n 1, 1) := by decide +kernel
theorem dX5_upper_9 : decode cX5_upper 9 = .ok (.ifCond .ne 5, 3) := by decide +kernel
theorem dX5_upper_12 : decode cX5_upper 12 = .ok (.lconst 0, 1) := by decide +kernel
theorem dX5_upper_13 : decode cX5_upper 13 = .ok (.lreturn, 1) := by decide +kernel
theorem dX5_upper_14 : decode cX5_upper 14 = .ok (.aload_n 0, 1) := by decide +kernel
theorem dX5_upper_15 : decode cX5_upper 15 = .ok (.getfield 31, 3) := by decide +kernel
theorem dX5_upper_18 : decode cX5_upper 18 = .ok (.aload_n 0, 1) := by decide +kernel
theorem dX5_upper_19 : decode cX5_upper 19 = .ok (.getfield 31, 3) := by decide +kernel
theorem dX5_upper_22 : decode cX5_upper 22 = .ok (.getfield 136, 3) := by decide +kernel
theorem dX5_upper_25 : decode cX5_upper 25 = .ok (.invokevirtual 204, 3) := by decide +kernel
theorem dX5_upper_28 : decode cX5_upper 28 = .ok (.istore_n 2, 1) := by decide +kernel
theorem dX5_upper_29 : decode cX5_upper 29 = .ok (.iload_n 2, 1) := by decide +kernel
theorem dX5_upper_30 : decode cX5_upper 30 = .ok (.iload_n 2, 1) := by decide +kernel
theorem dX5_upper_31 : decode cX5_upper 31 = .ok (.iload_n 1, 1) := by decide +kernel
theorem dX5_upper_32 : decode cX5_upper 32 = .ok (.invokestatic 285, 3) := by decide +kernel
theorem dX5_upper_35 : decode cX5_upper 35 = .ok (.idiv, 1) := by decide +kernel
theorem dX5_upper_36 : decode cX5_upper 36 = .ok (.i2l, 1) := by decide +kernel
theorem dX5_upper_37 : decode cX5_upper 37 = .ok (.lreturn, 1) := by decide +kernel
theorem dX5_lower_0 : decode cX5_lower 0 = .ok (.aload_n 0, 1) := by decide +kernel
theorem dX5_lower_1 : decode cX5_lower 1 = .ok (.getfield 31, 3) := by decide +kernel
theorem dX5_lower_4 : decode cX5_lower 4 = .ok (.invokevirtual 188, 3) := by decide +kernel
theorem dX5_lower_7 : decode cX5_lower 7 = .ok (.istore_n 1, 1) := by decide +kernel
theorem dX5_lower_8 : decode cX5_lower 8 = .ok (.iload_n 1, 1) := by decide +kernel
theorem dX5_lower_9 : decode cX5_lower 9 = .ok (.ifCond .ne 5, 3) := by decide +kernel
theorem dX5_lower_12 : decode cX5_lower 12 = .ok (.lconst 1, 1) := by decide +kernel
theorem dX5_lower_13 : decode cX5_lower 13 = .ok (.lreturn, 1) := by decide +kernel
theorem dX5_lower_14 : decode cX5_lower 14 = .ok (.iload_n 1, 1) := by decide +kernel
theorem dX5_lower_15 : decode cX5_lower 15 = .ok (.aload_n 0, 1) := by decide +kernel
theorem dX5_lower_16 : decode cX5_lower 16 = .ok (.getfield 31, 3) := by decide +kernel
theorem dX5_lower_19 : decode cX5_lower 19 = .ok (.aload_n 0, 1) := by decide +kernel
theorem dX5_lower_20 : decode cX5_lower 20 = .ok (.getfield 31, 3) := by decide +kernel
theorem dX5_lower_23 : decode cX5_lower 23 = .ok (.getfield 136, 3) := by decide +kernel
theorem dX5_lower_26 : decode cX5_lower 26 = .ok (.invokevirtual 204, 3) := by decide +kernel
theorem dX5_lower_29 : decode cX5_lower 29 = .ok (.iload_n 1, 1) := by decide +kernel
theorem dX5_lower_30 : decode cX5_lower 30 = .ok (.invokestatic 285, 3) := by decide +kernel
theorem dX5_lower_33 : decode cX5_lower 33 = .ok (.idiv, 1) := by decide +kernel
theorem dX5_lower_34 : decode cX5_lower 34 = .ok (.i2l, 1) := by decide +kernel
theorem dX5_lower_35 : decode cX5_lower 35 = .ok (.lreturn, 1) := by decide +kernel
theorem dX5_count_0 : decode cX5_count 0 = .ok (.iload_n 1, 1) := by decide +kernel
theorem dX5_count_1 : decode cX5_count 1 = .ok (.tableswitch 137 0 8 #[51, 59, 67, 75, 97, 108, 116, 124, 132], 51) := by decide +kernel
theorem dX5_count_52 : decode cX5_count 52 = .ok (.aload_n 0, 1) := by decide +kernel
theorem dX5_count_53 : decode cX5_count 53 = .ok (.getfield 31, 3) := by decide +kernel
theorem dX5_count_56 : decode cX5_count 56 = .ok (.getfield 127, 3) := by decide +kernel
theorem dX5_count_59 : decode cX5_count 59 = .ok (.ireturn, 1) := by decide +kernel
theorem dX5_count_60 : decode cX5_count 60 = .ok (.aload_n 0, 1) := by decide +kernel
theorem dX5_count_61 : decode cX5_count 61 = .ok (.getfield 31, 3) := by decide +kernel
theorem dX5_count_64 : decode cX5_count 64 = .ok (.getfield 288, 3) := by decide +kernel
theorem dX5_count_67 : decode cX5_count 67 = .ok (.ireturn, 1) := by decide +kernel
theorem dX5_count_68 : decode cX5_count 68 = .ok (.aload_n 0, 1) := by decide +kernel
theorem dX5_count_69 : decode cX5_count 69 = .ok (.getfield 31, 3) := by decide +kernel
theorem dX5_count_72 : decode cX5_count 72 = .ok (.getfield 173, 3) := by decide +kernel
theorem dX5_count_75 : decode cX5_count 75 = .ok (.ireturn, 1) := by decide +kernel
theorem dX5_count_76 : decode cX5_count 76 = .ok (.aload_n 0, 1) := by decide +kernel
theorem dX5_count_77 : decode cX5_count 77 = .ok (.getfield 31, 3) := by decide +kernel
theorem dX5_count_80 : decode cX5_count 80 = .ok (.getfield 127, 3) := by decide +kernel
theorem dX5_count_83 : decode cX5_count 83 = .ok (.ifCond .ne 7, 3) := by decide +kernel
theorem dX5_count_86 : decode cX5_count 86 = .ok (.iconst 0, 1) := by decide +kernel
theorem dX5_count_87 : decode cX5_count 87 = .ok (.goto 10, 3) := by decide +kernel
theorem dX5_count_90 : decode cX5_count 90 = .ok (.aload_n 0, 1) := by decide +kernel
theorem dX5_count_91 : decode cX5_count 91 = .ok (.getfield 31, 3) := by decide +kernel
theorem dX5_count_94 : decode cX5_count 94 = .ok (.invokevirtual 242, 3) := by decide +kernel
theorem dX5_count_97 : decode cX5_count 97 = .ok (.ireturn, 1) := by decide +kernel
theorem dX5_count_98 : decode cX5_count 98 = .ok (.aload_n 0, 1) := by decide +kernel
theorem dX5_count_99 : decode cX5_count 99 = .ok (.getfield 31, 3) := by decide +kernel
theorem dX5_count_102 : decode cX5_count 102 = .ok (.getfield 167, 3) := by decide +kernel
theorem dX5_count_105 : decode cX5_count 105 = .ok (.invokestatic 291, 3) := by decide +kernel
theorem dX5_count_108 : decode cX5_count 108 = .ok (.ireturn, 1) := by decide +kernel
theorem dX5_count_109 : decode cX5_count 109 = .ok (.aload_n 0, 1) := by decide +kernel
theorem dX5_count_110 : decode cX5_count 110 = .ok (.getfield 31, 3) := by decide +kernel
theorem dX5_count_113 : decode cX5_count 113 = .ok (.invokevirtual 296, 3) := by decide +kernel
theorem dX5_count_116 : decode cX5_count 116 = .ok (.ireturn, 1) := by decide +kernel
theorem dX5_count_117 : decode cX5_count 117 = .ok (.aload_n 0, 1) := by decide +kernel
theorem dX5_count_118 : decode cX5_count 118 = .ok (.getfield 14, 3) := by decide +kernel
theorem dX5_count_121 : decode cX5_count 121 = .ok (.invokevirtual 299, 3) := by decide +kernel
theorem dX5_count_124 : decode cX5_count 124 = .ok (.ireturn, 1) := by decide +kernel
theorem dX5_count_125 : decode cX5_count 125 = .ok (.aload_n 0, 1) := by decide +kernel
theorem dX5_count_126 : decode cX5_count 126 = .ok (.getfield 18, 3) := by decide +kernel
theorem dX5_count_129 : decode cX5_count 129 = .ok (.invokevirtual 299, 3) := by decide +kernel
theorem dX5_count_132 : decode cX5_count 132 = .ok (.ireturn, 1) := by decide +kernel
theorem dX5_count_133 : decode cX5_count 133 = .ok (.aload_n 0, 1) := by decide +kernel
theorem dX5_count_134 : decode cX5_count 134 = .ok (.invokevirtual 302, 3) := by decide +kernel
theorem dX5_count_137 : decode cX5_count 137 = .ok (.ireturn, 1) := by decide +kernel
theorem dX5_count_138 : decode cX5_count 138 = .ok (.iconst (-1), 1) := by decide +kernel
theorem dX5_count_139 : decode cX5_count 139 = .ok (.ireturn, 1) := by decide +kernel
theorem dX5_finding_0 : decode cX5_finding 0 = .ok (.aload_n 0, 1) := by decide +kernel
theorem dX5_finding_1 : decode cX5_finding 1 = .ok (.getfield 63, 3) := by decide +kernel
theorem dX5_finding_4 : decode cX5_finding 4 = .ok (.ireturn, 1) := by decide +kernel
theorem dX5_findings_0 : decode cX5_findings 0 = .ok (.iload_n 1, 1) := by decide +kernel
theorem dX5_findings_1 : decode cX5_findings 1 = .ok (.iconst 1, 1) := by decide +kernel
theorem dX5_findings_2 : decode cX5_findings 2 = .ok (.if_icmp .lt 8, 3) := by decide +kernel
theorem dX5_findings_5 : decode cX5_findings 5 = .ok (.iload_n 1, 1) := by decide +kernel
theorem dX5_findings_6 : decode cX5_findings 6 = .ok (.iconst 5, 1) := by decide +kernel
theorem dX5_findings_7 : decode cX5_findings 7 = .ok (.if_icmp .le 5, 3) := by decide +kernel
theorem dX5_findings_10 : decode cX5_findings 10 = .ok (.iconst (-1), 1) := by decide +kernel
theorem dX5_findings_11 : decode cX5_findings 11 = .ok (.ireturn, 1) := by decide +kernel
theorem dX5_findings_12 : decode cX5_findings 12 = .ok (.aload_n 0, 1) := by decide +kernel
theorem dX5_findings_13 : decode cX5_findings 13 = .ok (.getfield 59, 3) := by decide +kernel
theorem dX5_findings_16 : decode cX5_findings 16 = .ok (.iload_n 1, 1) := by decide +kernel
theorem dX5_findings_17 : decode cX5_findings 17 = .ok (.iaload, 1) := by decide +kernel
theorem dX5_findings_18 : decode cX5_findings 18 = .ok (.ireturn, 1) := by decide +kernel
theorem dX5_digest_0 : decode cX5_digest 0 = .ok (.ldc2_w 305, 3) := by decide +kernel
theorem dX5_digest_3 : decode cX5_digest 3 = .ok (.lstore_n 1, 1) := by decide +kernel
theorem dX5_digest_4 : decode cX5_digest 4 = .ok (.iconst 0, 1) := by decide +kernel
theorem dX5_digest_5 : decode cX5_digest 5 = .ok (.istore_n 3, 1) := by decide +kernel
theorem dX5_digest_6 : decode cX5_digest 6 = .ok (.iload_n 3, 1) := by decide +kernel
theorem dX5_digest_7 : decode cX5_digest 7 = .ok (.bipush 9, 2) := by decide +kernel
theorem dX5_digest_9 : decode cX5_digest 9 = .ok (.if_icmp .ge 22, 3) := by decide +kernel
theorem dX5_digest_12 : decode cX5_digest 12 = .ok (.ldc2_w 307, 3) := by decide +kernel
theorem dX5_digest_15 : decode cX5_digest 15 = .ok (.lload_n 1, 1) := by decide +kernel
theorem dX5_digest_16 : decode cX5_digest 16 = .ok (.lmul, 1) := by decide +kernel
theorem dX5_digest_17 : decode cX5_digest 17 = .ok (.aload_n 0, 1) := by decide +kernel
theorem dX5_digest_18 : decode cX5_digest 18 = .ok (.iload_n 3, 1) := by decide +kernel
theorem dX5_digest_19 : decode cX5_digest 19 = .ok (.invokevirtual 309, 3) := by decide +kernel
theorem dX5_digest_22 : decode cX5_digest 22 = .ok (.i2l, 1) := by decide +kernel
theorem dX5_digest_23 : decode cX5_digest 23 = .ok (.ladd, 1) := by decide +kernel
theorem dX5_digest_24 : decode cX5_digest 24 = .ok (.lstore_n 1, 1) := by decide +kernel
theorem dX5_digest_25 : decode cX5_digest 25 = .ok (.iinc 3 1, 3) := by decide +kernel
theorem dX5_digest_28 : decode cX5_digest 28 = .ok (.goto (-22), 3) := by decide +kernel
theorem dX5_digest_31 : decode cX5_digest 31 = .ok (.aload_n 0, 1) := by decide +kernel
theorem dX5_digest_32 : decode cX5_digest 32 = .ok (.getfield 31, 3) := by decide +kernel
theorem dX5_digest_35 : decode cX5_digest 35 = .ok (.lload_n 1, 1) := by decide +kernel
theorem dX5_digest_36 : decode cX5_digest 36 = .ok (.invokevirtual 312, 3) := by decide +kernel
theorem dX5_digest_39 : decode cX5_digest 39 = .ok (.lstore_n 1, 1) := by decide +kernel
theorem dX5_digest_40 : decode cX5_digest 40 = .ok (.iconst 0, 1) := by decide +kernel
theorem dX5_digest_41 : decode cX5_digest 41 = .ok (.istore_n 3, 1) := by decide +kernel
theorem dX5_digest_42 : decode cX5_digest 42 = .ok (.iload_n 3, 1) := by decide +kernel
theorem dX5_digest_43 : decode cX5_digest 43 = .ok (.iconst 3, 1) := by decide +kernel
theorem dX5_digest_44 : decode cX5_digest 44 = .ok (.if_icmp .ge 22, 3) := by decide +kernel
theorem dX5_digest_47 : decode cX5_digest 47 = .ok (.ldc2_w 307, 3) := by decide +kernel
theorem dX5_digest_50 : decode cX5_digest 50 = .ok (.lload_n 1, 1) := by decide +kernel
theorem dX5_digest_51 : decode cX5_digest 51 = .ok (.lmul, 1) := by decide +kernel
theorem dX5_digest_52 : decode cX5_digest 52 = .ok (.aload_n 0, 1) := by decide +kernel
theorem dX5_digest_53 : decode cX5_digest 53 = .ok (.iload_n 3, 1) := by decide +kernel
theorem dX5_digest_54 : decode cX5_digest 54 = .ok (.invokevirtual 316, 3) := by decide +kernel
theorem dX5_digest_57 : decode cX5_digest 57 = .ok (.i2l, 1) := by decide +kernel
theorem dX5_digest_58 : decode cX5_digest 58 = .ok (.ladd, 1) := by decide +kernel
theorem dX5_digest_59 : decode cX5_digest 59 = .ok (.lstore_n 1, 1) := by decide +kernel
theorem dX5_digest_60 : decode cX5_digest 60 = .ok (.iinc 3 1, 3) := by decide +kernel
theorem dX5_digest_63 : decode cX5_digest 63 = .ok (.goto (-21), 3) := by decide +kernel
theorem dX5_digest_66 : decode cX5_digest 66 = .ok (.aload_n 0, 1) := by decide +kernel
theorem dX5_digest_67 : decode cX5_digest 67 = .ok (.getfield 18, 3) := by decide +kernel
theorem dX5_digest_70 : decode cX5_digest 70 = .ok (.aload_n 0, 1) := by decide +kernel
theorem dX5_digest_71 : decode cX5_digest 71 = .ok (.getfield 14, 3) := by decide +kernel
theorem dX5_digest_74 : decode cX5_digest 74 = .ok (.lload_n 1, 1) := by decide +kernel
theorem dX5_digest_75 : decode cX5_digest 75 = .ok (.invokevirtual 319, 3) := by decide +kernel
theorem dX5_digest_78 : decode cX5_digest 78 = .ok (.invokevirtual 319, 3) := by decide +kernel
theorem dX5_digest_81 : decode cX5_digest 81 = .ok (.lreturn, 1) := by decide +kernel
theorem dX5_tell_0 : decode cX5_tell 0 = .ok (.aload_n 0, 1) := by decide +kernel
theorem dX5_tell_1 : decode cX5_tell 1 = .ok (.iload_n 2, 1) := by decide +kernel
theorem dX5_tell_2 : decode cX5_tell 2 = .ok (.putfield 67, 3) := by decide +kernel
theorem dX5_tell_5 : decode cX5_tell 5 = .ok (.iload_n 1, 1) := by decide +kernel
theorem dX5_tell_6 : decode cX5_tell 6 = .ok (.ireturn, 1) := by decide +kernel
theorem dX5_find_0 : decode cX5_find 0 = .ok (.iload_n 1, 1) := by decide +kernel
theorem dX5_find_1 : decode cX5_find 1 = .ok (.iconst 1, 1) := by decide +kernel
theorem dX5_find_2 : decode cX5_find 2 = .ok (.if_icmp .lt 23, 3) := by decide +kernel
theorem dX5_find_5 : decode cX5_find 5 = .ok (.iload_n 1, 1) := by decide +kernel
theorem dX5_find_6 : decode cX5_find 6 = .ok (.iconst 5, 1) := by decide +kernel
theorem dX5_find_7 : decode cX5_find 7 = .ok (.if_icmp .gt 18, 3) := by decide +kernel
theorem dX5_find_10 : decode cX5_find 10 = .ok (.aload_n 0, 1) := by decide +kernel
theorem dX5_find_11 : decode cX5_find 11 = .ok (.iload_n 1, 1) := by decide +kernel
theorem dX5_find_12 : decode cX5_find 12 = .ok (.putfield 63, 3) := by decide +kernel
theorem dX5_find_15 : decode cX5_find 15 = .ok (.aload_n 0, 1) := by decide +kernel
theorem dX5_find_16 : decode cX5_find 16 = .ok (.getfield 59, 3) := by decide +kernel
theorem dX5_find_19 : decode cX5_find 19 = .ok (.iload_n 1, 1) := by decide +kernel
theorem dX5_find_20 : decode cX5_find 20 = .ok (.dup2, 1) := by decide +kernel
theorem dX5_find_21 : decode cX5_find 21 = .ok (.iaload, 1) := by decide +kernel
theorem dX5_find_22 : decode cX5_find 22 = .ok (.iconst 1, 1) := by decide +kernel
theorem dX5_find_23 : decode cX5_find 23 = .ok (.iadd, 1) := by decide +kernel
theorem dX5_find_24 : decode cX5_find 24 = .ok (.iastore, 1) := by decide +kernel
theorem dX5_find_25 : decode cX5_find 25 = .ok (.bipush (-3), 2) := by decide +kernel
theorem dX5_find_27 : decode cX5_find 27 = .ok (.ireturn, 1) := by decide +kernel
theorem dX5_opened_0 : decode cX5_opened 0 = .ok (.aload_n 1, 1) := by decide +kernel
theorem dX5_opened_1 : decode cX5_opened 1 = .ok (.iload_n 2, 1) := by decide +kernel
theorem dX5_opened_2 : decode cX5_opened 2 = .ok (.invokevirtual 74, 3) := by decide +kernel
theorem dX5_opened_5 : decode cX5_opened 5 = .ok (.ifCond .eq 11, 3) := by decide +kernel
theorem dX5_opened_8 : decode cX5_opened 8 = .ok (.iload_n 3, 1) := by decide +kernel
theorem dX5_opened_9 : decode cX5_opened 9 = .ok (.aload_n 1, 1) := by decide +kernel
theorem dX5_opened_10 : decode cX5_opened 10 = .ok (.getfield 320, 3) := by decide +kernel
theorem dX5_opened_13 : decode cX5_opened 13 = .ok (.if_icmp .le 5, 3) := by decide +kernel
theorem dX5_opened_16 : decode cX5_opened 16 = .ok (.iconst (-1), 1) := by decide +kernel
theorem dX5_opened_17 : decode cX5_opened 17 = .ok (.ireturn, 1) := by decide +kernel
theorem dX5_opened_18 : decode cX5_opened 18 = .ok (.iload_n 3, 1) := by decide +kernel
theorem dX5_opened_19 : decode cX5_opened 19 = .ok (.ifCond .ge 9, 3) := by decide +kernel
theorem dX5_opened_22 : decode cX5_opened 22 = .ok (.aload_n 0, 1) := by decide +kernel
theorem dX5_opened_23 : decode cX5_opened 23 = .ok (.iconst 5, 1) := by decide +kernel
theorem dX5_opened_24 : decode cX5_opened 24 = .ok (.invokevirtual 96, 3) := by decide +kernel
theorem dX5_opened_27 : decode cX5_opened 27 = .ok (.ireturn, 1) := by decide +kernel
theorem dX5_opened_28 : decode cX5_opened 28 = .ok (.aload_n 1, 1) := by decide +kernel
theorem dX5_opened_29 : decode cX5_opened 29 = .ok (.iload_n 2, 1) := by decide +kernel
theorem dX5_opened_30 : decode cX5_opened 30 = .ok (.iload_n 3, 1) := by decide +kernel
theorem dX5_opened_31 : decode cX5_opened 31 = .ok (.iload 4, 2) := by decide +kernel
theorem dX5_opened_33 : decode cX5_opened 33 = .ok (.invokevirtual 185, 3) := by decide +kernel
theorem dX5_opened_36 : decode cX5_opened 36 = .ok (.iload_n 3, 1) := by decide +kernel
theorem dX5_opened_37 : decode cX5_opened 37 = .ok (.ireturn, 1) := by decide +kernel
theorem dX5_placeRefusal_0 : decode cX5_placeRefusal 0 = .ok (.aload_n 1, 1) := by decide +kernel
theorem dX5_placeRefusal_1 : decode cX5_placeRefusal 1 = .ok (.iload_n 2, 1) := by decide +kernel
theorem dX5_placeRefusal_2 : decode cX5_placeRefusal 2 = .ok (.invokevirtual 93, 3) := by decide +kernel
theorem dX5_placeRefusal_5 : decode cX5_placeRefusal 5 = .ok (.ifCond .ne 9, 3) := by decide +kernel
theorem dX5_placeRefusal_8 : decode cX5_placeRefusal 8 = .ok (.aload_n 0, 1) := by decide +kernel
theorem dX5_placeRefusal_9 : decode cX5_placeRefusal 9 = .ok (.iconst 1, 1) := by decide +kernel
theorem dX5_placeRefusal_10 : decode cX5_placeRefusal 10 = .ok (.invokevirtual 96, 3) := by decide +kernel
theorem dX5_placeRefusal_13 : decode cX5_placeRefusal 13 = .ok (.ireturn, 1) := by decide +kernel
theorem dX5_placeRefusal_14 : decode cX5_placeRefusal 14 = .ok (.aload_n 1, 1) := by decide +kernel
theorem dX5_placeRefusal_15 : decode cX5_placeRefusal 15 = .ok (.iload_n 2, 1) := by decide +kernel
theorem dX5_placeRefusal_16 : decode cX5_placeRefusal 16 = .ok (.iload_n 3, 1) := by decide +kernel
theorem dX5_placeRefusal_17 : decode cX5_placeRefusal 17 = .ok (.invokevirtual 323, 3) := by decide +kernel
theorem dX5_placeRefusal_20 : decode cX5_placeRefusal 20 = .ok (.ifCond .eq 7, 3) := by decide +kernel
theorem dX5_placeRefusal_23 : decode cX5_placeRefusal 23 = .ok (.iconst 0, 1) := by decide +kernel
theorem dX5_placeRefusal_24 : decode cX5_placeRefusal 24 = .ok (.goto 8, 3) := by decide +kernel
theorem dX5_placeRefusal_27 : decode cX5_placeRefusal 27 = .ok (.aload_n 0, 1) := by decide +kernel
theorem dX5_placeRefusal_28 : decode cX5_placeRefusal 28 = .ok (.iconst 2, 1) := by decide +kernel
theorem dX5_placeRefusal_29 : decode cX5_placeRefusal 29 = .ok (.invokevirtual 96, 3) := by decide +kernel
theorem dX5_placeRefusal_32 : decode cX5_placeRefusal 32 = .ok (.ireturn, 1) := by decide +kernel
theorem dX5_groundRefusal_0 : decode cX5_groundRefusal 0 = .ok (.aload_n 0, 1) := by decide +kernel
theorem dX5_groundRefusal_1 : decode cX5_groundRefusal 1 = .ok (.getfield 14, 3) := by decide +kernel
theorem dX5_groundRefusal_4 : decode cX5_groundRefusal 4 = .ok (.iload_n 1, 1) := by decide +kernel
theorem dX5_groundRefusal_5 : decode cX5_groundRefusal 5 = .ok (.invokevirtual 74, 3) := by decide +kernel
theorem dX5_groundRefusal_8 : decode cX5_groundRefusal 8 = .ok (.ifCond .ne 5, 3) := by decide +kernel
theorem dX5_groundRefusal_11 : decode cX5_groundRefusal 11 = .ok (.iconst (-1), 1) := by decide +kernel
theorem dX5_groundRefusal_12 : decode cX5_groundRefusal 12 = .ok (.ireturn, 1) := by decide +kernel
theorem dX5_groundRefusal_13 : decode cX5_groundRefusal 13 = .ok (.aload_n 0, 1) := by decide +kernel
theorem dX5_groundRefusal_14 : decode cX5_groundRefusal 14 = .ok (.getfield 31, 3) := by decide +kernel
theorem dX5_groundRefusal_17 : decode cX5_groundRefusal 17 = .ok (.getfield 127, 3) := by decide +kernel
theorem dX5_groundRefusal_20 : decode cX5_groundRefusal 20 = .ok (.ifCond .ne 8, 3) := by decide +kernel
theorem dX5_groundRefusal_23 : decode cX5_groundRefusal 23 = .ok (.bipush (-4), 2) := by decide +kernel
theorem dX5_groundRefusal_25 : decode cX5_groundRefusal 25 = .ok (.goto 8, 3) := by decide +kernel
theorem dX5_groundRefusal_28 : decode cX5_groundRefusal 28 = .ok (.aload_n 0, 1) := by decide +kernel
theorem dX5_groundRefusal_29 : decode cX5_groundRefusal 29 = .ok (.iload_n 1, 1) := by decide +kernel
theorem dX5_groundRefusal_30 : decode cX5_groundRefusal 30 = .ok (.invokevirtual 249, 3) := by decide +kernel
theorem dX5_groundRefusal_33 : decode cX5_groundRefusal 33 = .ok (.ireturn, 1) := by decide +kernel
theorem dX5_fitRefusal_0 : decode cX5_fitRefusal 0 = .ok (.aload_n 0, 1) := by decide +kernel
theorem dX5_fitRefusal_1 : decode cX5_fitRefusal 1 = .ok (.getfield 14, 3) := by decide +kernel
theorem dX5_fitRefusal_4 : decode cX5_fitRefusal 4 = .ok (.iload_n 1, 1) := by decide +kernel
theorem dX5_fitRefusal_5 : decode cX5_fitRefusal 5 = .ok (.invokevirtual 93, 3) := by decide +kernel
theorem dX5_fitRefusal_8 : decode cX5_fitRefusal 8 = .ok (.ifCond .ne 9, 3) := by decide +kernel
theorem dX5_fitRefusal_11 : decode cX5_fitRefusal 11 = .ok (.aload_n 0, 1) := by decide +kernel
theorem dX5_fitRefusal_12 : decode cX5_fitRefusal 12 = .ok (.iconst 1, 1) := by decide +kernel
theorem dX5_fitRefusal_13 : decode cX5_fitRefusal 13 = .ok (.invokevirtual 96, 3) := by decide +kernel
theorem dX5_fitRefusal_16 : decode cX5_fitRefusal 16 = .ok (.ireturn, 1) := by decide +kernel
theorem dX5_fitRefusal_17 : decode cX5_fitRefusal 17 = .ok (.aload_n 0, 1) := by decide +kernel
theorem dX5_fitRefusal_18 : decode cX5_fitRefusal 18 = .ok (.getfield 14, 3) := by decide +kernel
theorem dX5_fitRefusal_21 : decode cX5_fitRefusal 21 = .ok (.iload_n 1, 1) := by decide +kernel
theorem dX5_fitRefusal_22 : decode cX5_fitRefusal 22 = .ok (.invokevirtual 112, 3) := by decide +kernel
theorem dX5_fitRefusal_25 : decode cX5_fitRefusal 25 = .ok (.aload_n 0, 1) := by decide +kernel
theorem dX5_fitRefusal_26 : decode cX5_fitRefusal 26 = .ok (.getfield 31, 3) := by decide +kernel
theorem dX5_fitRefusal_29 : decode cX5_fitRefusal 29 = .ok (.getfield 127, 3) := by decide +kernel
theorem dX5_fitRefusal_32 : decode cX5_fitRefusal 32 = .ok (.if_icmp .ne 7, 3) := by decide +kernel
theorem dX5_fitRefusal_35 : decode cX5_fitRefusal 35 = .ok (.iconst 0, 1) := by decide +kernel
theorem dX5_fitRefusal_36 : decode cX5_fitRefusal 36 = .ok (.goto 8, 3) := by decide +kernel
theorem dX5_fitRefusal_39 : decode cX5_fitRefusal 39 = .ok (.aload_n 0, 1) := by decide +kernel
theorem dX5_fitRefusal_40 : decode cX5_fitRefusal 40 = .ok (.iconst 5, 1) := by decide +kernel
theorem dX5_fitRefusal_41 : decode cX5_fitRefusal 41 = .ok (.invokevirtual 96, 3) := by decide +kernel
theorem dX5_fitRefusal_44 : decode cX5_fitRefusal 44 = .ok (.ireturn, 1) := by decide +kernel
theorem dX5_isGroundOf_0 : decode cX5_isGroundOf 0 = .ok (.iconst 0, 1) := by decide +kernel
theorem dX5_isGroundOf_1 : decode cX5_isGroundOf 1 = .ok (.istore_n 3, 1) := by decide +kernel
theorem dX5_isGroundOf_2 : decode cX5_isGroundOf 2 = .ok (.iload_n 3, 1) := by decide +kernel
theorem dX5_isGroundOf_3 : decode cX5_isGroundOf 3 = .ok (.aload_n 0, 1) := by decide +kernel
theorem dX5_isGroundOf_4 : decode cX5_isGroundOf 4 = .ok (.getfield 31, 3) := by decide +kernel
theorem dX5_isGroundOf_7 : decode cX5_isGroundOf 7 = .ok (.getfield 127, 3) := by decide +kernel
theorem dX5_isGroundOf_10 : decode cX5_isGroundOf 10 = .ok (.if_icmp .ge 26, 3) := by decide +kernel
theorem dX5_isGroundOf_13 : decode cX5_isGroundOf 13 = .ok (.aload_n 0, 1) := by decide +kernel
theorem dX5_isGroundOf_14 : decode cX5_isGroundOf 14 = .ok (.getfield 14, 3) := by decide +kernel
theorem dX5_isGroundOf_17 : decode cX5_isGroundOf 17 = .ok (.iload_n 1, 1) := by decide +kernel
theorem dX5_isGroundOf_18 : decode cX5_isGroundOf 18 = .ok (.iload_n 3, 1) := by decide +kernel
theorem dX5_isGroundOf_19 : decode cX5_isGroundOf 19 = .ok (.invokevirtual 82, 3) := by decide +kernel
theorem dX5_isGroundOf_22 : decode cX5_isGroundOf 22 = .ok (.aload_n 2, 1) := by decide +kernel
theorem dX5_isGroundOf_23 : decode cX5_isGroundOf 23 = .ok (.iload_n 3, 1) := by decide +kernel
theorem dX5_isGroundOf_24 : decode cX5_isGroundOf 24 = .ok (.iaload, 1) := by decide +kernel
theorem dX5_isGroundOf_25 : decode cX5_isGroundOf 25 = .ok (.if_icmp .eq 5, 3) := by decide +kernel
theorem dX5_isGroundOf_28 : decode cX5_isGroundOf 28 = .ok (.iconst 0, 1) := by decide +kernel
theorem dX5_isGroundOf_29 : decode cX5_isGroundOf 29 = .ok (.ireturn, 1) := by decide +kernel
theorem dX5_isGroundOf_30 : decode cX5_isGroundOf 30 = .ok (.iinc 3 1, 3) := by decide +kernel
theorem dX5_isGroundOf_33 : decode cX5_isGroundOf 33 = .ok (.goto (-31), 3) := by decide +kernel
theorem dX5_isGroundOf_36 : decode cX5_isGroundOf 36 = .ok (.iconst 1, 1) := by decide +kernel
theorem dX5_isGroundOf_37 : decode cX5_isGroundOf 37 = .ok (.ireturn, 1) := by decide +kernel
theorem dX5_isStretch_0 : decode cX5_isStretch 0 = .ok (.aload_n 0, 1) := by decide +kernel
theorem dX5_isStretch_1 : decode cX5_isStretch 1 = .ok (.getfield 31, 3) := by decide +kernel
theorem dX5_isStretch_4 : decode cX5_isStretch 4 = .ok (.iload_n 1, 1) := by decide +kernel
theorem dX5_isStretch_5 : decode cX5_isStretch 5 = .ok (.invokevirtual 130, 3) := by decide +kernel
theorem dX5_isStretch_8 : decode cX5_isStretch 8 = .ok (.ifCond .eq 23, 3) := by decide +kernel
theorem dX5_isStretch_11 : decode cX5_isStretch 11 = .ok (.aload_n 0, 1) := by decide +kernel
theorem dX5_isStretch_12 : decode cX5_isStretch 12 = .ok (.getfield 31, 3) := by decide +kernel
theorem dX5_isStretch_15 : decode cX5_isStretch 15 = .ok (.iload_n 2, 1) := by decide +kernel
theorem dX5_isStretch_16 : decode cX5_isStretch 16 = .ok (.invokevirtual 130, 3) := by decide +kernel
theorem dX5_isStretch_19 : decode cX5_isStretch 19 = .ok (.ifCond .eq 12, 3) := by decide +kernel
theorem dX5_isStretch_22 : decode cX5_isStretch 22 = .ok (.iload_n 1, 1) := by decide +kernel
theorem dX5_isStretch_23 : decode cX5_isStretch 23 = .ok (.iload_n 2, 1) := by decide +kernel
theorem dX5_isStretch_24 : decode cX5_isStretch 24 = .ok (.if_icmp .ge 7, 3) := by decide +kernel
theorem dX5_isStretch_27 : decode cX5_isStretch 27 = .ok (.iconst 1, 1) := by decide +kernel
theorem dX5_isStretch_28 : decode cX5_isStretch 28 = .ok (.goto 4, 3) := by decide +kernel
theorem dX5_isStretch_31 : decode cX5_isStretch 31 = .ok (.iconst 0, 1) := by decide +kernel
theorem dX5_isStretch_32 : decode cX5_isStretch 32 = .ok (.ireturn, 1) := by decide +kernel
theorem dX5_extreme_0 : decode cX5_extreme 0 = .ok (.iconst 0, 1) := by decide +kernel
theorem dX5_extreme_1 : decode cX5_extreme 1 = .ok (.istore_n 3, 1) := by decide +kernel
theorem dX5_extreme_2 : decode cX5_extreme 2 = .ok (.aload_n 0, 1) := by decide +kernel
theorem dX5_extreme_3 : decode cX5_extreme 3 = .ok (.getfield 31, 3) := by decide +kernel
theorem dX5_extreme_6 : decode cX5_extreme 6 = .ok (.getfield 136, 3) := by decide +kernel
theorem dX5_extreme_9 : decode cX5_extreme 9 = .ok (.iload_n 1, 1) := by decide +kernel
theorem dX5_extreme_10 : decode cX5_extreme 10 = .ok (.iaload, 1) := by decide +kernel
theorem dX5_extreme_11 : decode cX5_extreme 11 = .ok (.istore 4, 2) := by decide +kernel
theorem dX5_extreme_13 : decode cX5_extreme 13 = .ok (.aload_n 0, 1) := by decide +kernel
theorem dX5_extreme_14 : decode cX5_extreme 14 = .ok (.getfield 31, 3) := by decide +kernel
theorem dX5_extreme_17 : decode cX5_extreme 17 = .ok (.invokevirtual 242, 3) := by decide +kernel
theorem dX5_extreme_20 : decode cX5_extreme 20 = .ok (.istore 5, 2) := by decide +kernel
theorem dX5_extreme_22 : decode cX5_extreme 22 = .ok (.iconst 1, 1) := by decide +kernel
theorem dX5_extreme_23 : decode cX5_extreme 23 = .ok (.istore 6, 2) := by decide +kernel
theorem dX5_extreme_25 : decode cX5_extreme 25 = .ok (.iload 6, 2) := by decide +kernel
theorem dX5_extreme_27 : decode cX5_extreme 27 = .ok (.iload 5, 2) := by decide +kernel
theorem dX5_extreme_29 : decode cX5_extreme 29 = .ok (.if_icmp .ge 55, 3) := by decide +kernel
theorem dX5_extreme_32 : decode cX5_extreme 32 = .ok (.aload_n 0, 1) := by decide +kernel
theorem dX5_extreme_33 : decode cX5_extreme 33 = .ok (.getfield 40, 3) := by decide +kernel
theorem dX5_extreme_36 : decode cX5_extreme 36 = .ok (.iload 6, 2) := by decide +kernel
theorem dX5_extreme_38 : decode cX5_extreme 38 = .ok (.iconst 1, 1) := by decide +kernel
theorem dX5_extreme_39 : decode cX5_extreme 39 = .ok (.invokevirtual 195, 3) := by decide +kernel
theorem dX5_extreme_42 : decode cX5_extreme 42 = .ok (.pop, 1) := by decide +kernel
theorem dX5_extreme_43 : decode cX5_extreme 43 = .ok (.iload_n 2, 1) := by decide +kernel
theorem dX5_extreme_44 : decode cX5_extreme 44 = .ok (.aload_n 0, 1) := by decide +kernel
theorem dX5_extreme_45 : decode cX5_extreme 45 = .ok (.getfield 40, 3) := by decide +kernel
theorem dX5_extreme_48 : decode cX5_extreme 48 = .ok (.getfield 198, 3) := by decide +kernel
theorem dX5_extreme_51 : decode cX5_extreme 51 = .ok (.iload_n 1, 1) := by decide +kernel
theorem dX5_extreme_52 : decode cX5_extreme 52 = .ok (.iaload, 1) := by decide +kernel
theorem dX5_extreme_53 : decode cX5_extreme 53 = .ok (.imul, 1) := by decide +kernel
theorem dX5_extreme_54 : decode cX5_extreme 54 = .ok (.iload_n 2, 1) := by decide +kernel
theorem dX5_extreme_55 : decode cX5_extreme 55 = .ok (.iload 4, 2) := by decide +kernel
theorem dX5_extreme_57 : decode cX5_extreme 57 = .ok (.imul, 1) := by decide +kernel
theorem dX5_extreme_58 : decode cX5_extreme 58 = .ok (.if_icmp .gt 6, 3) := by decide +kernel
theorem dX5_extreme_61 : decode cX5_extreme 61 = .ok (.goto 17, 3) := by decide +kernel
theorem dX5_extreme_64 : decode cX5_extreme 64 = .ok (.iload 6, 2) := by decide +kernel
theorem dX5_extreme_66 : decode cX5_extreme 66 = .ok (.istore_n 3, 1) := by decide +kernel
theorem dX5_extreme_67 : decode cX5_extreme 67 = .ok (.aload_n 0, 1) := by decide +kernel
theorem dX5_extreme_68 : decode cX5_extreme 68 = .ok (.getfield 40, 3) := by decide +kernel
theorem dX5_extreme_71 : decode cX5_extreme 71 = .ok (.getfield 198, 3) := by decide +kernel
theorem dX5_extreme_74 : decode cX5_extreme 74 = .ok (.iload_n 1, 1) := by decide +kernel
theorem dX5_extreme_75 : decode cX5_extreme 75 = .ok (.iaload, 1) := by decide +kernel
theorem dX5_extreme_76 : decode cX5_extreme 76 = .ok (.istore 4, 2) := by decide +kernel
theorem dX5_extreme_78 : decode cX5_extreme 78 = .ok (.iinc 6 1, 3) := by decide +kernel
theorem dX5_extreme_81 : decode cX5_extreme 81 = .ok (.goto (-56), 3) := by decide +kernel
theorem dX5_extreme_84 : decode cX5_extreme 84 = .ok (.aload_n 0, 1) := by decide +kernel
theorem dX5_extreme_85 : decode cX5_extreme 85 = .ok (.iload_n 3, 1) := by decide +kernel
theorem dX5_extreme_86 : decode cX5_extreme 86 = .ok (.iload 4, 2) := by decide +kernel
theorem dX5_extreme_88 : decode cX5_extreme 88 = .ok (.invokevirtual 90, 3) := by decide +kernel
theorem dX5_extreme_91 : decode cX5_extreme 91 = .ok (.ireturn, 1) := by decide +kernel
theorem dX5_layPlan_0 : decode cX5_layPlan 0 = .ok (.aload_n 0, 1) := by decide +kernel
theorem dX5_layPlan_1 : decode cX5_layPlan 1 = .ok (.getfield 14, 3) := by decide +kernel
theorem dX5_layPlan_4 : decode cX5_layPlan 4 = .ok (.iload_n 1, 1) := by decide +kernel
theorem dX5_layPlan_5 : decode cX5_layPlan 5 = .ok (.iload_n 2, 1) := by decide +kernel
theorem dX5_layPlan_6 : decode cX5_layPlan 6 = .ok (.iconst 0, 1) := by decide +kernel
theorem dX5_layPlan_7 : decode cX5_layPlan 7 = .ok (.invokevirtual 185, 3) := by decide +kernel
theorem dX5_layPlan_10 : decode cX5_layPlan 10 = .ok (.iconst 0, 1) := by decide +kernel
theorem dX5_layPlan_11 : decode cX5_layPlan 11 = .ok (.istore_n 3, 1) := by decide +kernel
theorem dX5_layPlan_12 : decode cX5_layPlan 12 = .ok (.iload_n 3, 1) := by decide +kernel
theorem dX5_layPlan_13 : decode cX5_layPlan 13 = .ok (.iload_n 2, 1) := by decide +kernel
theorem dX5_layPlan_14 : decode cX5_layPlan 14 = .ok (.if_icmp .ge 32, 3) := by decide +kernel
theorem dX5_layPlan_17 : decode cX5_layPlan 17 = .ok (.iload_n 3, 1) := by decide +kernel
theorem dX5_layPlan_18 : decode cX5_layPlan 18 = .ok (.iconst 3, 1) := by decide +kernel
theorem dX5_layPlan_19 : decode cX5_layPlan 19 = .ok (.if_icmp .ge 27, 3) := by decide +kernel
theorem dX5_layPlan_22 : decode cX5_layPlan 22 = .ok (.aload_n 0, 1) := by decide +kernel
theorem dX5_layPlan_23 : decode cX5_layPlan 23 = .ok (.getfield 14, 3) := by decide +kernel
theorem dX5_layPlan_26 : decode cX5_layPlan 26 = .ok (.iload_n 1, 1) := by decide +kernel
theorem dX5_layPlan_27 : decode cX5_layPlan 27 = .ok (.iload_n 3, 1) := by decide +kernel
theorem dX5_layPlan_28 : decode cX5_layPlan 28 = .ok (.aload_n 0, 1) := by decide +kernel
theorem dX5_layPlan_29 : decode cX5_layPlan 29 = .ok (.getfield 47, 3) := by decide +kernel
theorem dX5_layPlan_32 : decode cX5_layPlan 32 = .ok (.getfield 326, 3) := by decide +kernel
theorem dX5_layPlan_35 : decode cX5_layPlan 35 = .ok (.iload_n 3, 1) := by decide +kernel
theorem dX5_layPlan_36 : decode cX5_layPlan 36 = .ok (.iaload, 1) := by decide +kernel
theorem dX5_layPlan_37 : decode cX5_layPlan 37 = .ok (.invokevirtual 86, 3) := by decide +kernel
theorem dX5_layPlan_40 : decode cX5_layPlan 40 = .ok (.iinc 3 1, 3) := by decide +kernel
theorem dX5_layPlan_43 : decode cX5_layPlan 43 = .ok (.goto (-31), 3) := by decide +kernel
theorem dX5_layPlan_46 : decode cX5_layPlan 46 = .ok (.return_, 1) := by decide +kernel
theorem dX5_frostByLot_0 : decode cX5_frostByLot 0 = .ok (.aload_n 0, 1) := by decide +kernel
theorem dX5_frostByLot_1 : decode cX5_frostByLot 1 = .ok (.getfield 31, 3) := by decide +kernel
theorem dX5_frostByLot_4 : decode cX5_frostByLot 4 = .ok (.getfield 127, 3) := by decide +kernel
theorem dX5_frostByLot_7 : decode cX5_frostByLot 7 = .ok (.ifCond .eq 17, 3) := by decide +kernel
theorem dX5_frostByLot_10 : decode cX5_frostByLot 10 = .ok (.lload_n 1, 1) := by decide +kernel
theorem dX5_frostByLot_11 : decode cX5_frostByLot 11 = .ok (.ldc2_w 329, 3) := by decide +kernel
theorem dX5_frostByLot_14 : decode cX5_frostByLot 14 = .ok (.ldiv, 1) := by decide +kernel
theorem dX5_frostByLot_15 : decode cX5_frostByLot 15 = .ok (.ldc2_w 331, 3) := by decide +kernel
theorem dX5_frostByLot_18 : decode cX5_frostByLot 18 = .ok (.lrem, 1) := by decide +kernel
theorem dX5_frostByLot_19 : decode cX5_frostByLot 19 = .ok (.lconst 0, 1) := by decide +kernel
theorem dX5_frostByLot_20 : decode cX5_frostByLot 20 = .ok (.lcmp, 1) := by decide +kernel
theorem dX5_frostByLot_21 : decode cX5_frostByLot 21 = .ok (.ifCond .ne 5, 3) := by decide +kernel
theorem dX5_frostByLot_24 : decode cX5_frostByLot 24 = .ok (.iconst 0, 1) := by decide +kernel
theorem dX5_frostByLot_25 : decode cX5_frostByLot 25 = .ok (.ireturn, 1) := by decide +kernel
theorem dX5_frostByLot_26 : decode cX5_frostByLot 26 = .ok (.iconst 1, 1) := by decide +kernel
theorem dX5_frostByLot_27 : decode cX5_frostByLot 27 = .ok (.lload_n 1, 1) := by decide +kernel
theorem dX5_frostByLot_28 : decode cX5_frostByLot 28 = .ok (.ldc2_w 333, 3) := by decide +kernel
theorem dX5_frostByLot_31 : decode cX5_frostByLot 31 = .ok (.ldiv, 1) := by decide +kernel
theorem dX5_frostByLot_32 : decode cX5_frostByLot 32 = .ok (.aload_n 0, 1) := by decide +kernel
theorem dX5_frostByLot_33 : decode cX5_frostByLot 33 = .ok (.getfield 31, 3) := by decide +kernel
theorem dX5_frostByLot_36 : decode cX5_frostByLot 36 = .ok (.getfield 127, 3) := by decide +kernel
theorem dX5_frostByLot_39 : decode cX5_frostByLot 39 = .ok (.i2l, 1) := by decide +kernel
theorem dX5_frostByLot_40 : decode cX5_frostByLot 40 = .ok (.lrem, 1) := by decide +kernel
theorem dX5_frostByLot_41 : decode cX5_frostByLot 41 = .ok (.l2i, 1) := by decide +kernel
theorem dX5_frostByLot_42 : decode cX5_frostByLot 42 = .ok (.ishl, 1) := by decide +kernel
theorem dX5_frostByLot_43 : decode cX5_frostByLot 43 = .ok (.ireturn, 1) := by decide +kernel
theorem dX5_keptNow_0 : decode cX5_keptNow 0 = .ok (.iconst 0, 1) := by decide +kernel
theorem dX5_keptNow_1 : decode cX5_keptNow 1 = .ok (.istore_n 1, 1) := by decide +kernel
theorem dX5_keptNow_2 : decode cX5_keptNow 2 = .ok (.iconst 0, 1) := by decide +kernel
theorem dX5_keptNow_3 : decode cX5_keptNow 3 = .ok (.istore_n 2, 1) := by decide +kernel
theorem dX5_keptNow_4 : decode cX5_keptNow 4 = .ok (.iload_n 2, 1) := by decide +kernel
theorem dX5_keptNow_5 : decode cX5_keptNow 5 = .ok (.iconst 3, 1) := by decide +kernel
theorem dX5_keptNow_6 : decode cX5_keptNow 6 = .ok (.if_icmp .ge 21, 3) := by decide +kernel
theorem dX5_keptNow_9 : decode cX5_keptNow 9 = .ok (.aload_n 0, 1) := by decide +kernel
theorem dX5_keptNow_10 : decode cX5_keptNow 10 = .ok (.getfield 55, 3) := by decide +kernel
theorem dX5_keptNow_13 : decode cX5_keptNow 13 = .ok (.iload_n 2, 1) := by decide +kernel
theorem dX5_keptNow_14 : decode cX5_keptNow 14 = .ok (.baload, 1) := by decide +kernel
theorem dX5_keptNow_15 : decode cX5_keptNow 15 = .ok (.ifCond .eq 6, 3) := by decide +kernel
theorem dX5_keptNow_18 : decode cX5_keptNow 18 = .ok (.iinc 1 1, 3) := by decide +kernel
theorem dX5_keptNow_21 : decode cX5_keptNow 21 = .ok (.iinc 2 1, 3) := by decide +kernel
theorem dX5_keptNow_24 : decode cX5_keptNow 24 = .ok (.goto (-20), 3) := by decide +kernel
theorem dX5_keptNow_27 : decode cX5_keptNow 27 = .ok (.iload_n 1, 1) := by decide +kernel
theorem dX5_keptNow_28 : decode cX5_keptNow 28 = .ok (.ireturn, 1) := by decide +kernel
theorem dX5_keptEvenings_0 : decode cX5_keptEvenings 0 = .ok (.iload_n 1, 1) := by decide +kernel
theorem dX5_keptEvenings_1 : decode cX5_keptEvenings 1 = .ok (.ifCond .lt 17, 3) := by decide +kernel
theorem dX5_keptEvenings_4 : decode cX5_keptEvenings 4 = .ok (.iload_n 1, 1) := by decide +kernel
theorem dX5_keptEvenings_5 : decode cX5_keptEvenings 5 = .ok (.iconst 3, 1) := by decide +kernel
theorem dX5_keptEvenings_6 : decode cX5_keptEvenings 6 = .ok (.if_icmp .ge 12, 3) := by decide +kernel
theorem dX5_keptEvenings_9 : decode cX5_keptEvenings 9 = .ok (.aload_n 0, 1) := by decide +kernel
theorem dX5_keptEvenings_10 : decode cX5_keptEvenings 10 = .ok (.getfield 55, 3) := by decide +kernel
theorem dX5_keptEvenings_13 : decode cX5_keptEvenings 13 = .ok (.iload_n 1, 1) := by decide +kernel
theorem dX5_keptEvenings_14 : decode cX5_keptEvenings 14 = .ok (.baload, 1) := by decide +kernel
theorem dX5_keptEvenings_15 : decode cX5_keptEvenings 15 = .ok (.ifCond .ne 5, 3) := by decide +kernel
theorem dX5_keptEvenings_18 : decode cX5_keptEvenings 18 = .ok (.iconst (-1), 1) := by decide +kernel
theorem dX5_keptEvenings_19 : decode cX5_keptEvenings 19 = .ok (.ireturn, 1) := by decide +kernel
theorem dX5_keptEvenings_20 : decode cX5_keptEvenings 20 = .ok (.aload_n 0, 1) := by decide +kernel
theorem dX5_keptEvenings_21 : decode cX5_keptEvenings 21 = .ok (.getfield 51, 3) := by decide +kernel
theorem dX5_keptEvenings_24 : decode cX5_keptEvenings 24 = .ok (.iload_n 1, 1) := by decide +kernel
theorem dX5_keptEvenings_25 : decode cX5_keptEvenings 25 = .ok (.aaload, 1) := by decide +kernel
theorem dX5_keptEvenings_26 : decode cX5_keptEvenings 26 = .ok (.astore_n 2, 1) := by decide +kernel
theorem dX5_keptEvenings_27 : decode cX5_keptEvenings 27 = .ok (.aload_n 2, 1) := by decide +kernel
theorem dX5_keptEvenings_28 : decode cX5_keptEvenings 28 = .ok (.ifnonnull 7, 3) := by decide +kernel
theorem dX5_keptEvenings_31 : decode cX5_keptEvenings 31 = .ok (.iconst (-1), 1) := by decide +kernel
theorem dX5_keptEvenings_32 : decode cX5_keptEvenings 32 = .ok (.goto 7, 3) := by decide +kernel
theorem dX5_keptEvenings_35 : decode cX5_keptEvenings 35 = .ok (.aload_n 2, 1) := by decide +kernel
theorem dX5_keptEvenings_36 : decode cX5_keptEvenings 36 = .ok (.getfield 173, 3) := by decide +kernel
theorem dX5_keptEvenings_39 : decode cX5_keptEvenings 39 = .ok (.ireturn, 1) := by decide +kernel
theorem dX5_commonDivisor_0 : decode cX5_commonDivisor 0 = .ok (.iload_n 0, 1) := by decide +kernel
theorem dX5_commonDivisor_1 : decode cX5_commonDivisor 1 = .ok (.istore_n 2, 1) := by decide +kernel
theorem dX5_commonDivisor_2 : decode cX5_commonDivisor 2 = .ok (.iload_n 1, 1) := by decide +kernel
theorem dX5_commonDivisor_3 : decode cX5_commonDivisor 3 = .ok (.istore_n 3, 1) := by decide +kernel
theorem dX5_commonDivisor_4 : decode cX5_commonDivisor 4 = .ok (.iconst 0, 1) := by decide +kernel
theorem dX5_commonDivisor_5 : decode cX5_commonDivisor 5 = .ok (.istore 4, 2) := by decide +kernel
theorem dX5_commonDivisor_7 : decode cX5_commonDivisor 7 = .ok (.iload 4, 2) := by decide +kernel
theorem dX5_commonDivisor_9 : decode cX5_commonDivisor 9 = .ok (.bipush 64, 2) := by decide +kernel
theorem dX5_commonDivisor_11 : decode cX5_commonDivisor 11 = .ok (.if_icmp .ge 23, 3) := by decide +kernel
theorem dX5_commonDivisor_14 : decode cX5_commonDivisor 14 = .ok (.iload_n 3, 1) := by decide +kernel
theorem dX5_commonDivisor_15 : decode cX5_commonDivisor 15 = .ok (.ifCond .eq 19, 3) := by decide +kernel
theorem dX5_commonDivisor_18 : decode cX5_commonDivisor 18 = .ok (.iload_n 2, 1) := by decide +kernel
theorem dX5_commonDivisor_19 : decode cX5_commonDivisor 19 = .ok (.iload_n 3, 1) := by decide +kernel
theorem dX5_commonDivisor_20 : decode cX5_commonDivisor 20 = .ok (.irem, 1) := by decide +kernel
theorem dX5_commonDivisor_21 : decode cX5_commonDivisor 21 = .ok (.istore 5, 2) := by decide +kernel
theorem dX5_commonDivisor_23 : decode cX5_commonDivisor 23 = .ok (.iload_n 3, 1) := by decide +kernel
theorem dX5_commonDivisor_24 : decode cX5_commonDivisor 24 = .ok (.istore_n 2, 1) := by decide +kernel
theorem dX5_commonDivisor_25 : decode cX5_commonDivisor 25 = .ok (.iload 5, 2) := by decide +kernel
theorem dX5_commonDivisor_27 : decode cX5_commonDivisor 27 = .ok (.istore_n 3, 1) := by decide +kernel
theorem dX5_commonDivisor_28 : decode cX5_commonDivisor 28 = .ok (.iinc 4 1, 3) := by decide +kernel
theorem dX5_commonDivisor_31 : decode cX5_commonDivisor 31 = .ok (.goto (-24), 3) := by decide +kernel
theorem dX5_commonDivisor_34 : decode cX5_commonDivisor 34 = .ok (.iload_n 2, 1) := by decide +kernel
theorem dX5_commonDivisor_35 : decode cX5_commonDivisor 35 = .ok (.ifCond .ne 7, 3) := by decide +kernel
theorem dX5_commonDivisor_38 : decode cX5_commonDivisor 38 = .ok (.iconst 1, 1) := by decide +kernel
theorem dX5_commonDivisor_39 : decode cX5_commonDivisor 39 = .ok (.goto 4, 3) := by decide +kernel
theorem dX5_commonDivisor_42 : decode cX5_commonDivisor 42 = .ok (.iload_n 2, 1) := by decide +kernel
theorem dX5_commonDivisor_43 : decode cX5_commonDivisor 43 = .ok (.ireturn, 1) := by decide +kernel
