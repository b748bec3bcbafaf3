theorem dX12_carries_79 : decode cX12_carries 79 = .ok (.getfield 70, 3) := by decide +kernel
theorem dX12_carries_82 : decode cX12_carries 82 = .ok (.bipush 32, 2) := by decide +kernel
theorem dX12_carries_84 : decode cX12_carries 84 = .ok (.dup2, 1) := by decide +kernel
theorem dX12_carries_85 : decode cX12_carries 85 = .ok (.iaload, 1) := by decide +kernel
theorem dX12_carries_86 : decode cX12_carries 86 = .ok (.iconst 2, 1) := by decide +kernel
theorem dX12_carries_87 : decode cX12_carries 87 = .ok (.isub, 1) := by decide +kernel
theorem dX12_carries_88 : decode cX12_carries 88 = .ok (.iastore, 1) := by decide +kernel
theorem dX12_carries_89 : decode cX12_carries 89 = .ok (.aload_n 0, 1) := by decide +kernel
theorem dX12_carries_90 : decode cX12_carries 90 = .ok (.getfield 70, 3) := by decide +kernel
theorem dX12_carries_93 : decode cX12_carries 93 = .ok (.iconst 0, 1) := by decide +kernel
theorem dX12_carries_94 : decode cX12_carries 94 = .ok (.iload_n 1, 1) := by decide +kernel
theorem dX12_carries_95 : decode cX12_carries 95 = .ok (.iadd, 1) := by decide +kernel
theorem dX12_carries_96 : decode cX12_carries 96 = .ok (.iload_n 2, 1) := by decide +kernel
theorem dX12_carries_97 : decode cX12_carries 97 = .ok (.iastore, 1) := by decide +kernel
theorem dX12_carries_98 : decode cX12_carries 98 = .ok (.aload_n 0, 1) := by decide +kernel
theorem dX12_carries_99 : decode cX12_carries 99 = .ok (.iload_n 1, 1) := by decide +kernel
theorem dX12_carries_100 : decode cX12_carries 100 = .ok (.invokevirtual 352, 3) := by decide +kernel
theorem dX12_carries_103 : decode cX12_carries 103 = .ok (.iload_n 3, 1) := by decide +kernel
theorem dX12_carries_104 : decode cX12_carries 104 = .ok (.ireturn, 1) := by decide +kernel
theorem dX12_bars_0 : decode cX12_bars 0 = .ok (.aload_n 0, 1) := by decide +kernel
theorem dX12_bars_1 : decode cX12_bars 1 = .ok (.aload_n 0, 1) := by decide +kernel
theorem dX12_bars_2 : decode cX12_bars 2 = .ok (.iload_n 1, 1) := by decide +kernel
theorem dX12_bars_3 : decode cX12_bars 3 = .ok (.invokevirtual 367, 3) := by decide +kernel
theorem dX12_bars_6 : decode cX12_bars 6 = .ok (.ifCond .ne 7, 3) := by decide +kernel
theorem dX12_bars_9 : decode cX12_bars 9 = .ok (.iconst 0, 1) := by decide +kernel
theorem dX12_bars_10 : decode cX12_bars 10 = .ok (.goto 19, 3) := by decide +kernel
theorem dX12_bars_13 : decode cX12_bars 13 = .ok (.aload_n 0, 1) := by decide +kernel
theorem dX12_bars_14 : decode cX12_bars 14 = .ok (.getfield 70, 3) := by decide +kernel
theorem dX12_bars_17 : decode cX12_bars 17 = .ok (.bipush 32, 2) := by decide +kernel
theorem dX12_bars_19 : decode cX12_bars 19 = .ok (.iaload, 1) := by decide +kernel
theorem dX12_bars_20 : decode cX12_bars 20 = .ok (.iconst 1, 1) := by decide +kernel
theorem dX12_bars_21 : decode cX12_bars 21 = .ok (.if_icmp .ge 7, 3) := by decide +kernel
theorem dX12_bars_24 : decode cX12_bars 24 = .ok (.iconst 3, 1) := by decide +kernel
theorem dX12_bars_25 : decode cX12_bars 25 = .ok (.goto 4, 3) := by decide +kernel
theorem dX12_bars_28 : decode cX12_bars 28 = .ok (.iconst (-1), 1) := by decide +kernel
theorem dX12_bars_29 : decode cX12_bars 29 = .ok (.invokevirtual 382, 3) := by decide +kernel
theorem dX12_bars_32 : decode cX12_bars 32 = .ok (.ifCond .eq 5, 3) := by decide +kernel
theorem dX12_bars_35 : decode cX12_bars 35 = .ok (.iconst (-1), 1) := by decide +kernel
theorem dX12_bars_36 : decode cX12_bars 36 = .ok (.ireturn, 1) := by decide +kernel
theorem dX12_bars_37 : decode cX12_bars 37 = .ok (.aload_n 0, 1) := by decide +kernel
theorem dX12_bars_38 : decode cX12_bars 38 = .ok (.invokevirtual 385, 3) := by decide +kernel
theorem dX12_bars_41 : decode cX12_bars 41 = .ok (.aload_n 0, 1) := by decide +kernel
theorem dX12_bars_42 : decode cX12_bars 42 = .ok (.getfield 70, 3) := by decide +kernel
theorem dX12_bars_45 : decode cX12_bars 45 = .ok (.bipush 32, 2) := by decide +kernel
theorem dX12_bars_47 : decode cX12_bars 47 = .ok (.dup2, 1) := by decide +kernel
theorem dX12_bars_48 : decode cX12_bars 48 = .ok (.iaload, 1) := by decide +kernel
theorem dX12_bars_49 : decode cX12_bars 49 = .ok (.iconst 1, 1) := by decide +kernel
theorem dX12_bars_50 : decode cX12_bars 50 = .ok (.isub, 1) := by decide +kernel
theorem dX12_bars_51 : decode cX12_bars 51 = .ok (.iastore, 1) := by decide +kernel
theorem dX12_bars_52 : decode cX12_bars 52 = .ok (.aload_n 0, 1) := by decide +kernel
theorem dX12_bars_53 : decode cX12_bars 53 = .ok (.getfield 70, 3) := by decide +kernel
theorem dX12_bars_56 : decode cX12_bars 56 = .ok (.bipush 31, 2) := by decide +kernel
theorem dX12_bars_58 : decode cX12_bars 58 = .ok (.dup2, 1) := by decide +kernel
theorem dX12_bars_59 : decode cX12_bars 59 = .ok (.iaload, 1) := by decide +kernel
theorem dX12_bars_60 : decode cX12_bars 60 = .ok (.iconst 1, 1) := by decide +kernel
theorem dX12_bars_61 : decode cX12_bars 61 = .ok (.iload_n 1, 1) := by decide +kernel
theorem dX12_bars_62 : decode cX12_bars 62 = .ok (.ishl, 1) := by decide +kernel
theorem dX12_bars_63 : decode cX12_bars 63 = .ok (.ixor, 1) := by decide +kernel
theorem dX12_bars_64 : decode cX12_bars 64 = .ok (.iastore, 1) := by decide +kernel
theorem dX12_bars_65 : decode cX12_bars 65 = .ok (.aload_n 0, 1) := by decide +kernel
theorem dX12_bars_66 : decode cX12_bars 66 = .ok (.iload_n 1, 1) := by decide +kernel
theorem dX12_bars_67 : decode cX12_bars 67 = .ok (.invokevirtual 334, 3) := by decide +kernel
theorem dX12_bars_70 : decode cX12_bars 70 = .ok (.ifCond .eq 7, 3) := by decide +kernel
theorem dX12_bars_73 : decode cX12_bars 73 = .ok (.iconst 1, 1) := by decide +kernel
theorem dX12_bars_74 : decode cX12_bars 74 = .ok (.goto 4, 3) := by decide +kernel
theorem dX12_bars_77 : decode cX12_bars 77 = .ok (.iconst 0, 1) := by decide +kernel
theorem dX12_bars_78 : decode cX12_bars 78 = .ok (.ireturn, 1) := by decide +kernel
theorem dX12_give_0 : decode cX12_give 0 = .ok (.aload_n 0, 1) := by decide +kernel
theorem dX12_give_1 : decode cX12_give 1 = .ok (.aload_n 0, 1) := by decide +kernel
theorem dX12_give_2 : decode cX12_give 2 = .ok (.getfield 288, 3) := by decide +kernel
theorem dX12_give_5 : decode cX12_give 5 = .ok (.ifCond .ne 7, 3) := by decide +kernel
theorem dX12_give_8 : decode cX12_give 8 = .ok (.iconst 0, 1) := by decide +kernel
theorem dX12_give_9 : decode cX12_give 9 = .ok (.goto 33, 3) := by decide +kernel
theorem dX12_give_12 : decode cX12_give 12 = .ok (.iload_n 1, 1) := by decide +kernel
theorem dX12_give_13 : decode cX12_give 13 = .ok (.iconst 1, 1) := by decide +kernel
theorem dX12_give_14 : decode cX12_give 14 = .ok (.bipush 50, 2) := by decide +kernel
theorem dX12_give_16 : decode cX12_give 16 = .ok (.invokestatic 235, 3) := by decide +kernel
theorem dX12_give_19 : decode cX12_give 19 = .ok (.ifCond .eq 18, 3) := by decide +kernel
theorem dX12_give_22 : decode cX12_give 22 = .ok (.aload_n 0, 1) := by decide +kernel
theorem dX12_give_23 : decode cX12_give 23 = .ok (.getfield 70, 3) := by decide +kernel
theorem dX12_give_26 : decode cX12_give 26 = .ok (.bipush 32, 2) := by decide +kernel
theorem dX12_give_28 : decode cX12_give 28 = .ok (.iaload, 1) := by decide +kernel
theorem dX12_give_29 : decode cX12_give 29 = .ok (.iload_n 1, 1) := by decide +kernel
theorem dX12_give_30 : decode cX12_give 30 = .ok (.iadd, 1) := by decide +kernel
theorem dX12_give_31 : decode cX12_give 31 = .ok (.sipush 999, 3) := by decide +kernel
theorem dX12_give_34 : decode cX12_give 34 = .ok (.if_icmp .le 7, 3) := by decide +kernel
theorem dX12_give_37 : decode cX12_give 37 = .ok (.iconst 1, 1) := by decide +kernel
theorem dX12_give_38 : decode cX12_give 38 = .ok (.goto 4, 3) := by decide +kernel
theorem dX12_give_41 : decode cX12_give 41 = .ok (.iconst (-1), 1) := by decide +kernel
theorem dX12_give_42 : decode cX12_give 42 = .ok (.invokevirtual 382, 3) := by decide +kernel
theorem dX12_give_45 : decode cX12_give 45 = .ok (.ifCond .eq 5, 3) := by decide +kernel
theorem dX12_give_48 : decode cX12_give 48 = .ok (.iconst (-1), 1) := by decide +kernel
theorem dX12_give_49 : decode cX12_give 49 = .ok (.ireturn, 1) := by decide +kernel
theorem dX12_give_50 : decode cX12_give 50 = .ok (.aload_n 0, 1) := by decide +kernel
theorem dX12_give_51 : decode cX12_give 51 = .ok (.invokevirtual 385, 3) := by decide +kernel
theorem dX12_give_54 : decode cX12_give 54 = .ok (.aload_n 0, 1) := by decide +kernel
theorem dX12_give_55 : decode cX12_give 55 = .ok (.getfield 70, 3) := by decide +kernel
theorem dX12_give_58 : decode cX12_give 58 = .ok (.bipush 32, 2) := by decide +kernel
theorem dX12_give_60 : decode cX12_give 60 = .ok (.dup2, 1) := by decide +kernel
theorem dX12_give_61 : decode cX12_give 61 = .ok (.iaload, 1) := by decide +kernel
theorem dX12_give_62 : decode cX12_give 62 = .ok (.iload_n 1, 1) := by decide +kernel
theorem dX12_give_63 : decode cX12_give 63 = .ok (.iadd, 1) := by decide +kernel
theorem dX12_give_64 : decode cX12_give 64 = .ok (.iastore, 1) := by decide +kernel
theorem dX12_give_65 : decode cX12_give 65 = .ok (.aload_n 0, 1) := by decide +kernel
theorem dX12_give_66 : decode cX12_give 66 = .ok (.getfield 70, 3) := by decide +kernel
theorem dX12_give_69 : decode cX12_give 69 = .ok (.bipush 32, 2) := by decide +kernel
theorem dX12_give_71 : decode cX12_give 71 = .ok (.iaload, 1) := by decide +kernel
theorem dX12_give_72 : decode cX12_give 72 = .ok (.ireturn, 1) := by decide +kernel
theorem dX12_flood_0 : decode cX12_flood 0 = .ok (.iload_n 1, 1) := by decide +kernel
theorem dX12_flood_1 : decode cX12_flood 1 = .ok (.iconst 0, 1) := by decide +kernel
theorem dX12_flood_2 : decode cX12_flood 2 = .ok (.bipush 9, 2) := by decide +kernel
theorem dX12_flood_4 : decode cX12_flood 4 = .ok (.invokestatic 235, 3) := by decide +kernel
theorem dX12_flood_7 : decode cX12_flood 7 = .ok (.ifCond .eq 11, 3) := by decide +kernel
theorem dX12_flood_10 : decode cX12_flood 10 = .ok (.iload_n 1, 1) := by decide +kernel
theorem dX12_flood_11 : decode cX12_flood 11 = .ok (.aload_n 0, 1) := by decide +kernel
theorem dX12_flood_12 : decode cX12_flood 12 = .ok (.getfield 80, 3) := by decide +kernel
theorem dX12_flood_15 : decode cX12_flood 15 = .ok (.if_icmp .ne 5, 3) := by decide +kernel
theorem dX12_flood_18 : decode cX12_flood 18 = .ok (.iconst 0, 1) := by decide +kernel
theorem dX12_flood_19 : decode cX12_flood 19 = .ok (.ireturn, 1) := by decide +kernel
theorem dX12_flood_20 : decode cX12_flood 20 = .ok (.aload_n 0, 1) := by decide +kernel
theorem dX12_flood_21 : decode cX12_flood 21 = .ok (.iload_n 1, 1) := by decide +kernel
theorem dX12_flood_22 : decode cX12_flood 22 = .ok (.putfield 80, 3) := by decide +kernel
theorem dX12_flood_25 : decode cX12_flood 25 = .ok (.iconst 1, 1) := by decide +kernel
theorem dX12_flood_26 : decode cX12_flood 26 = .ok (.ireturn, 1) := by decide +kernel
theorem dX12_draw_0 : decode cX12_draw 0 = .ok (.aload_n 0, 1) := by decide +kernel
theorem dX12_draw_1 : decode cX12_draw 1 = .ok (.aload_n 0, 1) := by decide +kernel
theorem dX12_draw_2 : decode cX12_draw 2 = .ok (.getfield 397, 3) := by decide +kernel
theorem dX12_draw_5 : decode cX12_draw 5 = .ok (.ldc2_w 401, 3) := by decide +kernel
theorem dX12_draw_8 : decode cX12_draw 8 = .ok (.lmul, 1) := by decide +kernel
theorem dX12_draw_9 : decode cX12_draw 9 = .ok (.ldc2_w 403, 3) := by decide +kernel
theorem dX12_draw_12 : decode cX12_draw 12 = .ok (.ladd, 1) := by decide +kernel
theorem dX12_draw_13 : decode cX12_draw 13 = .ok (.putfield 397, 3) := by decide +kernel
theorem dX12_draw_16 : decode cX12_draw 16 = .ok (.aload_n 0, 1) := by decide +kernel
theorem dX12_draw_17 : decode cX12_draw 17 = .ok (.getfield 397, 3) := by decide +kernel
theorem dX12_draw_20 : decode cX12_draw 20 = .ok (.bipush 33, 2) := by decide +kernel
theorem dX12_draw_22 : decode cX12_draw 22 = .ok (.lushr, 1) := by decide +kernel
theorem dX12_draw_23 : decode cX12_draw 23 = .ok (.iload_n 1, 1) := by decide +kernel
theorem dX12_draw_24 : decode cX12_draw 24 = .ok (.i2l, 1) := by decide +kernel
theorem dX12_draw_25 : decode cX12_draw 25 = .ok (.lrem, 1) := by decide +kernel
theorem dX12_draw_26 : decode cX12_draw 26 = .ok (.l2i, 1) := by decide +kernel
theorem dX12_draw_27 : decode cX12_draw 27 = .ok (.ireturn, 1) := by decide +kernel
theorem dX12_drawDay_0 : decode cX12_drawDay 0 = .ok (.aload_n 0, 1) := by decide +kernel
theorem dX12_drawDay_1 : decode cX12_drawDay 1 = .ok (.bipush 10, 2) := by decide +kernel
theorem dX12_drawDay_3 : decode cX12_drawDay 3 = .ok (.invokevirtual 405, 3) := by decide +kernel
theorem dX12_drawDay_6 : decode cX12_drawDay 6 = .ok (.aload_n 0, 1) := by decide +kernel
theorem dX12_drawDay_7 : decode cX12_drawDay 7 = .ok (.getfield 80, 3) := by decide +kernel
theorem dX12_drawDay_10 : decode cX12_drawDay 10 = .ok (.if_icmp .ge 23, 3) := by decide +kernel
theorem dX12_drawDay_13 : decode cX12_drawDay 13 = .ok (.aload_n 0, 1) := by decide +kernel
theorem dX12_drawDay_14 : decode cX12_drawDay 14 = .ok (.getfield 70, 3) := by decide +kernel
theorem dX12_drawDay_17 : decode cX12_drawDay 17 = .ok (.bipush 31, 2) := by decide +kernel
theorem dX12_drawDay_19 : decode cX12_drawDay 19 = .ok (.dup2, 1) := by decide +kernel
theorem dX12_drawDay_20 : decode cX12_drawDay 20 = .ok (.iaload, 1) := by decide +kernel
theorem dX12_drawDay_21 : decode cX12_drawDay 21 = .ok (.iconst 1, 1) := by decide +kernel
theorem dX12_drawDay_22 : decode cX12_drawDay 22 = .ok (.aload_n 0, 1) := by decide +kernel
theorem dX12_drawDay_23 : decode cX12_drawDay 23 = .ok (.aload_n 0, 1) := by decide +kernel
theorem dX12_drawDay_24 : decode cX12_drawDay 24 = .ok (.getfield 291, 3) := by decide +kernel
theorem dX12_drawDay_27 : decode cX12_drawDay 27 = .ok (.invokevirtual 405, 3) := by decide +kernel
theorem dX12_drawDay_30 : decode cX12_drawDay 30 = .ok (.ishl, 1) := by decide +kernel
theorem dX12_drawDay_31 : decode cX12_drawDay 31 = .ok (.ixor, 1) := by decide +kernel
theorem dX12_drawDay_32 : decode cX12_drawDay 32 = .ok (.iastore, 1) := by decide +kernel
theorem dX12_drawDay_33 : decode cX12_drawDay 33 = .ok (.aload_n 0, 1) := by decide +kernel
theorem dX12_drawDay_34 : decode cX12_drawDay 34 = .ok (.aload_n 0, 1) := by decide +kernel
theorem dX12_drawDay_35 : decode cX12_drawDay 35 = .ok (.getfield 285, 3) := by decide +kernel
theorem dX12_drawDay_38 : decode cX12_drawDay 38 = .ok (.invokevirtual 405, 3) := by decide +kernel
theorem dX12_drawDay_41 : decode cX12_drawDay 41 = .ok (.istore_n 1, 1) := by decide +kernel
theorem dX12_drawDay_42 : decode cX12_drawDay 42 = .ok (.aload_n 0, 1) := by decide +kernel
theorem dX12_drawDay_43 : decode cX12_drawDay 43 = .ok (.iconst 4, 1) := by decide +kernel
theorem dX12_drawDay_44 : decode cX12_drawDay 44 = .ok (.invokevirtual 405, 3) := by decide +kernel
theorem dX12_drawDay_47 : decode cX12_drawDay 47 = .ok (.istore_n 2, 1) := by decide +kernel
theorem dX12_drawDay_48 : decode cX12_drawDay 48 = .ok (.aload_n 0, 1) := by decide +kernel
theorem dX12_drawDay_49 : decode cX12_drawDay 49 = .ok (.iload_n 2, 1) := by decide +kernel
theorem dX12_drawDay_50 : decode cX12_drawDay 50 = .ok (.invokevirtual 376, 3) := by decide +kernel
theorem dX12_drawDay_53 : decode cX12_drawDay 53 = .ok (.ifCond .eq 37, 3) := by decide +kernel
theorem dX12_drawDay_56 : decode cX12_drawDay 56 = .ok (.aload_n 0, 1) := by decide +kernel
theorem dX12_drawDay_57 : decode cX12_drawDay 57 = .ok (.iload_n 2, 1) := by decide +kernel
theorem dX12_drawDay_58 : decode cX12_drawDay 58 = .ok (.aload_n 0, 1) := by decide +kernel
theorem dX12_drawDay_59 : decode cX12_drawDay 59 = .ok (.getfield 70, 3) := by decide +kernel
theorem dX12_drawDay_62 : decode cX12_drawDay 62 = .ok (.iconst 0, 1) := by decide +kernel
theorem dX12_drawDay_63 : decode cX12_drawDay 63 = .ok (.iload_n 1, 1) := by decide +kernel
theorem dX12_drawDay_64 : decode cX12_drawDay 64 = .ok (.iadd, 1) := by decide +kernel
theorem dX12_drawDay_65 : decode cX12_drawDay 65 = .ok (.iaload, 1) := by decide +kernel
theorem dX12_drawDay_66 : decode cX12_drawDay 66 = .ok (.invokevirtual 391, 3) := by decide +kernel
theorem dX12_drawDay_69 : decode cX12_drawDay 69 = .ok (.ifCond .eq 21, 3) := by decide +kernel
theorem dX12_drawDay_72 : decode cX12_drawDay 72 = .ok (.aload_n 0, 1) := by decide +kernel
theorem dX12_drawDay_73 : decode cX12_drawDay 73 = .ok (.getfield 70, 3) := by decide +kernel
theorem dX12_drawDay_76 : decode cX12_drawDay 76 = .ok (.iconst 4, 1) := by decide +kernel
theorem dX12_drawDay_77 : decode cX12_drawDay 77 = .ok (.iload_n 1, 1) := by decide +kernel
theorem dX12_drawDay_78 : decode cX12_drawDay 78 = .ok (.iadd, 1) := by decide +kernel
theorem dX12_drawDay_79 : decode cX12_drawDay 79 = .ok (.iaload, 1) := by decide +kernel
theorem dX12_drawDay_80 : decode cX12_drawDay 80 = .ok (.iconst (-1), 1) := by decide +kernel
theorem dX12_drawDay_81 : decode cX12_drawDay 81 = .ok (.if_icmp .ne 9, 3) := by decide +kernel
theorem dX12_drawDay_84 : decode cX12_drawDay 84 = .ok (.aload_n 0, 1) := by decide +kernel
theorem dX12_drawDay_85 : decode cX12_drawDay 85 = .ok (.iload_n 1, 1) := by decide +kernel
theorem dX12_drawDay_86 : decode cX12_drawDay 86 = .ok (.iload_n 2, 1) := by decide +kernel
theorem dX12_drawDay_87 : decode cX12_drawDay 87 = .ok (.invokevirtual 394, 3) := by decide +kernel
theorem dX12_drawDay_90 : decode cX12_drawDay 90 = .ok (.return_, 1) := by decide +kernel
theorem dX12_years_0 : decode cX12_years 0 = .ok (.aload_n 0, 1) := by decide +kernel
theorem dX12_years_1 : decode cX12_years 1 = .ok (.getfield 288, 3) := by decide +kernel
theorem dX12_years_4 : decode cX12_years 4 = .ok (.ifCond .eq 11, 3) := by decide +kernel
theorem dX12_years_7 : decode cX12_years 7 = .ok (.aload_n 0, 1) := by decide +kernel
theorem dX12_years_8 : decode cX12_years 8 = .ok (.iload_n 1, 1) := by decide +kernel
theorem dX12_years_9 : decode cX12_years 9 = .ok (.invokevirtual 379, 3) := by decide +kernel
theorem dX12_years_12 : decode cX12_years 12 = .ok (.ifCond .ne 5, 3) := by decide +kernel
theorem dX12_years_15 : decode cX12_years 15 = .ok (.iconst (-1), 1) := by decide +kernel
theorem dX12_years_16 : decode cX12_years 16 = .ok (.ireturn, 1) := by decide +kernel
theorem dX12_years_17 : decode cX12_years 17 = .ok (.aload_n 0, 1) := by decide +kernel
theorem dX12_years_18 : decode cX12_years 18 = .ok (.lload_n 2, 1) := by decide +kernel
theorem dX12_years_19 : decode cX12_years 19 = .ok (.putfield 397, 3) := by decide +kernel
theorem dX12_years_22 : decode cX12_years 22 = .ok (.iconst 0, 1) := by decide +kernel
theorem dX12_years_23 : decode cX12_years 23 = .ok (.istore 4, 2) := by decide +kernel
theorem dX12_years_25 : decode cX12_years 25 = .ok (.iload 4, 2) := by decide +kernel
theorem dX12_years_27 : decode cX12_years 27 = .ok (.iload_n 1, 1) := by decide +kernel
theorem dX12_years_28 : decode cX12_years 28 = .ok (.if_icmp .ge 21, 3) := by decide +kernel
theorem dX12_years_31 : decode cX12_years 31 = .ok (.aload_n 0, 1) := by decide +kernel
theorem dX12_years_32 : decode cX12_years 32 = .ok (.invokevirtual 385, 3) := by decide +kernel
theorem dX12_years_35 : decode cX12_years 35 = .ok (.aload_n 0, 1) := by decide +kernel
theorem dX12_years_36 : decode cX12_years 36 = .ok (.invokevirtual 408, 3) := by decide +kernel
theorem dX12_years_39 : decode cX12_years 39 = .ok (.aload_n 0, 1) := by decide +kernel
theorem dX12_years_40 : decode cX12_years 40 = .ok (.invokevirtual 388, 3) := by decide +kernel
theorem dX12_years_43 : decode cX12_years 43 = .ok (.iinc 4 1, 3) := by decide +kernel
theorem dX12_years_46 : decode cX12_years 46 = .ok (.goto (-21), 3) := by decide +kernel
theorem dX12_years_49 : decode cX12_years 49 = .ok (.aload_n 0, 1) := by decide +kernel
theorem dX12_years_50 : decode cX12_years 50 = .ok (.getfield 70, 3) := by decide +kernel
theorem dX12_years_53 : decode cX12_years 53 = .ok (.bipush 33, 2) := by decide +kernel
theorem dX12_years_55 : decode cX12_years 55 = .ok (.iaload, 1) := by decide +kernel
theorem dX12_years_56 : decode cX12_years 56 = .ok (.ireturn, 1) := by decide +kernel
theorem dX12_status_0 : decode cX12_status 0 = .ok (.iload_n 1, 1) := by decide +kernel
theorem dX12_status_1 : decode cX12_status 1 = .ok (.iconst 0, 1) := by decide +kernel
theorem dX12_status_2 : decode cX12_status 2 = .ok (.iconst 4, 1) := by decide +kernel
theorem dX12_status_3 : decode cX12_status 3 = .ok (.invokestatic 235, 3) := by decide +kernel
theorem dX12_status_6 : decode cX12_status 6 = .ok (.ifCond .eq 12, 3) := by decide +kernel
theorem dX12_status_9 : decode cX12_status 9 = .ok (.aload_n 0, 1) := by decide +kernel
theorem dX12_status_10 : decode cX12_status 10 = .ok (.getfield 73, 3) := by decide +kernel
theorem dX12_status_13 : decode cX12_status 13 = .ok (.iload_n 1, 1) := by decide +kernel
theorem dX12_status_14 : decode cX12_status 14 = .ok (.iaload, 1) := by decide +kernel
theorem dX12_status_15 : decode cX12_status 15 = .ok (.goto 4, 3) := by decide +kernel
theorem dX12_status_18 : decode cX12_status 18 = .ok (.iconst (-1), 1) := by decide +kernel
theorem dX12_status_19 : decode cX12_status 19 = .ok (.ireturn, 1) := by decide +kernel
theorem dX12_undo_0 : decode cX12_undo 0 = .ok (.aload_n 0, 1) := by decide +kernel
theorem dX12_undo_1 : decode cX12_undo 1 = .ok (.getfield 300, 3) := by decide +kernel
theorem dX12_undo_4 : decode cX12_undo 4 = .ok (.ifCond .ne 5, 3) := by decide +kernel
theorem dX12_undo_7 : decode cX12_undo 7 = .ok (.iconst (-1), 1) := by decide +kernel
theorem dX12_undo_8 : decode cX12_undo 8 = .ok (.ireturn, 1) := by decide +kernel
theorem dX12_undo_9 : decode cX12_undo 9 = .ok (.aload_n 0, 1) := by decide +kernel
theorem dX12_undo_10 : decode cX12_undo 10 = .ok (.dup, 1) := by decide +kernel
theorem dX12_undo_11 : decode cX12_undo 11 = .ok (.getfield 300, 3) := by decide +kernel
theorem dX12_undo_14 : decode cX12_undo 14 = .ok (.iconst 1, 1) := by decide +kernel
theorem dX12_undo_15 : decode cX12_undo 15 = .ok (.isub, 1) := by decide +kernel
theorem dX12_undo_16 : decode cX12_undo 16 = .ok (.putfield 300, 3) := by decide +kernel
theorem dX12_undo_19 : decode cX12_undo 19 = .ok (.iconst 0, 1) := by decide +kernel
theorem dX12_undo_20 : decode cX12_undo 20 = .ok (.istore_n 1, 1) := by decide +kernel
theorem dX12_undo_21 : decode cX12_undo 21 = .ok (.iload_n 1, 1) := by decide +kernel
theorem dX12_undo_22 : decode cX12_undo 22 = .ok (.sipush 215, 3) := by decide +kernel
theorem dX12_undo_25 : decode cX12_undo 25 = .ok (.if_icmp .ge 30, 3) := by decide +kernel
theorem dX12_undo_28 : decode cX12_undo 28 = .ok (.aload_n 0, 1) := by decide +kernel
theorem dX12_undo_29 : decode cX12_undo 29 = .ok (.getfield 70, 3) := by decide +kernel
theorem dX12_undo_32 : decode cX12_undo 32 = .ok (.iload_n 1, 1) := by decide +kernel
theorem dX12_undo_33 : decode cX12_undo 33 = .ok (.aload_n 0, 1) := by decide +kernel
theorem dX12_undo_34 : decode cX12_undo 34 = .ok (.getfield 89, 3) := by decide +kernel
theorem dX12_undo_37 : decode cX12_undo 37 = .ok (.sipush 215, 3) := by decide +kernel
theorem dX12_undo_40 : decode cX12_undo 40 = .ok (.aload_n 0, 1) := by decide +kernel
theorem dX12_undo_41 : decode cX12_undo 41 = .ok (.getfield 300, 3) := by decide +kernel
theorem dX12_undo_44 : decode cX12_undo 44 = .ok (.imul, 1) := by decide +kernel
theorem dX12_undo_45 : decode cX12_undo 45 = .ok (.iload_n 1, 1) := by decide +kernel
theorem dX12_undo_46 : decode cX12_undo 46 = .ok (.iadd, 1) := by decide +kernel
theorem dX12_undo_47 : decode cX12_undo 47 = .ok (.iaload, 1) := by decide +kernel
theorem dX12_undo_48 : decode cX12_undo 48 = .ok (.iastore, 1) := by decide +kernel
theorem dX12_undo_49 : decode cX12_undo 49 = .ok (.iinc 1 1, 3) := by decide +kernel
theorem dX12_undo_52 : decode cX12_undo 52 = .ok (.goto (-31), 3) := by decide +kernel
theorem dX12_undo_55 : decode cX12_undo 55 = .ok (.aload_n 0, 1) := by decide +kernel
theorem dX12_undo_56 : decode cX12_undo 56 = .ok (.getfield 300, 3) := by decide +kernel
theorem dX12_undo_59 : decode cX12_undo 59 = .ok (.ireturn, 1) := by decide +kernel
theorem dX12_log_0 : decode cX12_log 0 = .ok (.iload_n 1, 1) := by decide +kernel
theorem dX12_log_1 : decode cX12_log 1 = .ok (.iconst 0, 1) := by decide +kernel
theorem dX12_log_2 : decode cX12_log 2 = .ok (.aload_n 0, 1) := by decide +kernel
theorem dX12_log_3 : decode cX12_log 3 = .ok (.getfield 70, 3) := by decide +kernel
theorem dX12_log_6 : decode cX12_log 6 = .ok (.bipush 34, 2) := by decide +kernel
theorem dX12_log_8 : decode cX12_log 8 = .ok (.iaload, 1) := by decide +kernel
theorem dX12_log_9 : decode cX12_log 9 = .ok (.iconst 1, 1) := by decide +kernel
theorem dX12_log_10 : decode cX12_log 10 = .ok (.isub, 1) := by decide +kernel
theorem dX12_log_11 : decode cX12_log 11 = .ok (.invokestatic 235, 3) := by decide +kernel
theorem dX12_log_14 : decode cX12_log 14 = .ok (.ifCond .eq 38, 3) := by decide +kernel
theorem dX12_log_17 : decode cX12_log 17 = .ok (.iload_n 2, 1) := by decide +kernel
theorem dX12_log_18 : decode cX12_log 18 = .ok (.iconst 0, 1) := by decide +kernel
theorem dX12_log_19 : decode cX12_log 19 = .ok (.iconst 2, 1) := by decide +kernel
theorem dX12_log_20 : decode cX12_log 20 = .ok (.invokestatic 235, 3) := by decide +kernel
theorem dX12_log_23 : decode cX12_log 23 = .ok (.ifCond .eq 29, 3) := by decide +kernel
theorem dX12_log_26 : decode cX12_log 26 = .ok (.aload_n 0, 1) := by decide +kernel
theorem dX12_log_27 : decode cX12_log 27 = .ok (.getfield 70, 3) := by decide +kernel
theorem dX12_log_30 : decode cX12_log 30 = .ok (.bipush 35, 2) := by decide +kernel
theorem dX12_log_32 : decode cX12_log 32 = .ok (.iconst 3, 1) := by decide +kernel
theorem dX12_log_33 : decode cX12_log 33 = .ok (.aload_n 0, 1) := by decide +kernel
theorem dX12_log_34 : decode cX12_log 34 = .ok (.getfield 70, 3) := by decide +kernel
theorem dX12_log_37 : decode cX12_log 37 = .ok (.bipush 34, 2) := by decide +kernel
theorem dX12_log_39 : decode cX12_log 39 = .ok (.iaload, 1) := by decide +kernel
theorem dX12_log_40 : decode cX12_log 40 = .ok (.iconst 1, 1) := by decide +kernel
theorem dX12_log_41 : decode cX12_log 41 = .ok (.isub, 1) := by decide +kernel
theorem dX12_log_42 : decode cX12_log 42 = .ok (.iload_n 1, 1) := by decide +kernel
theorem dX12_log_43 : decode cX12_log 43 = .ok (.isub, 1) := by decide +kernel
theorem dX12_log_44 : decode cX12_log 44 = .ok (.imul, 1) := by decide +kernel
theorem dX12_log_45 : decode cX12_log 45 = .ok (.iadd, 1) := by decide +kernel
theorem dX12_log_46 : decode cX12_log 46 = .ok (.iload_n 2, 1) := by decide +kernel
theorem dX12_log_47 : decode cX12_log 47 = .ok (.iadd, 1) := by decide +kernel
theorem dX12_log_48 : decode cX12_log 48 = .ok (.iaload, 1) := by decide +kernel
theorem dX12_log_49 : decode cX12_log 49 = .ok (.goto 4, 3) := by decide +kernel
theorem dX12_log_52 : decode cX12_log 52 = .ok (.iconst (-1), 1) := by decide +kernel
theorem dX12_log_53 : decode cX12_log 53 = .ok (.ireturn, 1) := by decide +kernel
theorem dX12_layAway_0 : decode cX12_layAway 0 = .ok (.aload_n 0, 1) := by decide +kernel
theorem dX12_layAway_1 : decode cX12_layAway 1 = .ok (.invokevirtual 355, 3) := by decide +kernel
theorem dX12_layAway_4 : decode cX12_layAway 4 = .ok (.iconst 0, 1) := by decide +kernel
theorem dX12_layAway_5 : decode cX12_layAway 5 = .ok (.istore_n 1, 1) := by decide +kernel
theorem dX12_layAway_6 : decode cX12_layAway 6 = .ok (.iload_n 1, 1) := by decide +kernel
theorem dX12_layAway_7 : decode cX12_layAway 7 = .ok (.bipush 49, 2) := by decide +kernel
theorem dX12_layAway_9 : decode cX12_layAway 9 = .ok (.if_icmp .ge 98, 3) := by decide +kernel
theorem dX12_layAway_12 : decode cX12_layAway 12 = .ok (.iload_n 1, 1) := by decide +kernel
theorem dX12_layAway_13 : decode cX12_layAway 13 = .ok (.bipush 7, 2) := by decide +kernel
theorem dX12_layAway_15 : decode cX12_layAway 15 = .ok (.idiv, 1) := by decide +kernel
theorem dX12_layAway_16 : decode cX12_layAway 16 = .ok (.aload_n 0, 1) := by decide +kernel
theorem dX12_layAway_17 : decode cX12_layAway 17 = .ok (.getfield 288, 3) := by decide +kernel
theorem dX12_layAway_20 : decode cX12_layAway 20 = .ok (.if_icmp .ge 29, 3) := by decide +kernel
theorem dX12_layAway_23 : decode cX12_layAway 23 = .ok (.iload_n 1, 1) := by decide +kernel
theorem dX12_layAway_24 : decode cX12_layAway 24 = .ok (.bipush 7, 2) := by decide +kernel
theorem dX12_layAway_26 : decode cX12_layAway 26 = .ok (.irem, 1) := by decide +kernel
theorem dX12_layAway_27 : decode cX12_layAway 27 = .ok (.aload_n 0, 1) := by decide +kernel
theorem dX12_layAway_28 : decode cX12_layAway 28 = .ok (.getfield 288, 3) := by decide +kernel
theorem dX12_layAway_31 : decode cX12_layAway 31 = .ok (.if_icmp .ge 18, 3) := by decide +kernel
theorem dX12_layAway_34 : decode cX12_layAway 34 = .ok (.aload_n 0, 1) := by decide +kernel
theorem dX12_layAway_35 : decode cX12_layAway 35 = .ok (.iload_n 1, 1) := by decide +kernel
theorem dX12_layAway_36 : decode cX12_layAway 36 = .ok (.bipush 7, 2) := by decide +kernel
theorem dX12_layAway_38 : decode cX12_layAway 38 = .ok (.idiv, 1) := by decide +kernel
theorem dX12_layAway_39 : decode cX12_layAway 39 = .ok (.iload_n 1, 1) := by decide +kernel
theorem dX12_layAway_40 : decode cX12_layAway 40 = .ok (.bipush 7, 2) := by decide +kernel
theorem dX12_layAway_42 : decode cX12_layAway 42 = .ok (.irem, 1) := by decide +kernel
theorem dX12_layAway_43 : decode cX12_layAway 43 = .ok (.invokevirtual 346, 3) := by decide +kernel
theorem dX12_layAway_46 : decode cX12_layAway 46 = .ok (.goto 4, 3) := by decide +kernel
theorem dX12_layAway_49 : decode cX12_layAway 49 = .ok (.iconst (-1), 1) := by decide +kernel
theorem dX12_layAway_50 : decode cX12_layAway 50 = .ok (.istore_n 2, 1) := by decide +kernel
theorem dX12_layAway_51 : decode cX12_layAway 51 = .ok (.aload_n 0, 1) := by decide +kernel
theorem dX12_layAway_52 : decode cX12_layAway 52 = .ok (.getfield 92, 3) := by decide +kernel
theorem dX12_layAway_55 : decode cX12_layAway 55 = .ok (.iload_n 1, 1) := by decide +kernel
theorem dX12_layAway_56 : decode cX12_layAway 56 = .ok (.iload_n 2, 1) := by decide +kernel
theorem dX12_layAway_57 : decode cX12_layAway 57 = .ok (.iconst (-1), 1) := by decide +kernel
theorem dX12_layAway_58 : decode cX12_layAway 58 = .ok (.if_icmp .ne 9, 3) := by decide +kernel
theorem dX12_layAway_61 : decode cX12_layAway 61 = .ok (.ldc_w 411, 3) := by decide +kernel
theorem dX12_layAway_64 : decode cX12_layAway 64 = .ok (.goto 9, 3) := by decide +kernel
theorem dX12_layAway_67 : decode cX12_layAway 67 = .ok (.aload_n 0, 1) := by decide +kernel
theorem dX12_layAway_68 : decode cX12_layAway 68 = .ok (.getfield 83, 3) := by decide +kernel
theorem dX12_layAway_71 : decode cX12_layAway 71 = .ok (.iload_n 2, 1) := by decide +kernel
theorem dX12_layAway_72 : decode cX12_layAway 72 = .ok (.iaload, 1) := by decide +kernel
theorem dX12_layAway_73 : decode cX12_layAway 73 = .ok (.iastore, 1) := by decide +kernel
theorem dX12_layAway_74 : decode cX12_layAway 74 = .ok (.aload_n 0, 1) := by decide +kernel
theorem dX12_layAway_75 : decode cX12_layAway 75 = .ok (.getfield 95, 3) := by decide +kernel
theorem dX12_layAway_78 : decode cX12_layAway 78 = .ok (.iload_n 1, 1) := by decide +kernel
theorem dX12_layAway_79 : decode cX12_layAway 79 = .ok (.iload_n 1, 1) := by decide +kernel
theorem dX12_layAway_80 : decode cX12_layAway 80 = .ok (.bipush 7, 2) := by decide +kernel
theorem dX12_layAway_82 : decode cX12_layAway 82 = .ok (.idiv, 1) := by decide +kernel
theorem dX12_layAway_83 : decode cX12_layAway 83 = .ok (.iload_n 1, 1) := by decide +kernel
theorem dX12_layAway_84 : decode cX12_layAway 84 = .ok (.bipush 7, 2) := by decide +kernel
theorem dX12_layAway_86 : decode cX12_layAway 86 = .ok (.irem, 1) := by decide +kernel
theorem dX12_layAway_87 : decode cX12_layAway 87 = .ok (.if_icmp .ne 7, 3) := by decide +kernel
theorem dX12_layAway_90 : decode cX12_layAway 90 = .ok (.iconst 0, 1) := by decide +kernel
theorem dX12_layAway_91 : decode cX12_layAway 91 = .ok (.goto 9, 3) := by decide +kernel
theorem dX12_layAway_94 : decode cX12_layAway 94 = .ok (.aload_n 0, 1) := by decide +kernel
theorem dX12_layAway_95 : decode cX12_layAway 95 = .ok (.getfield 92, 3) := by decide +kernel
theorem dX12_layAway_98 : decode cX12_layAway 98 = .ok (.iload_n 1, 1) := by decide +kernel
theorem dX12_layAway_99 : decode cX12_layAway 99 = .ok (.iaload, 1) := by decide +kernel
theorem dX12_layAway_100 : decode cX12_layAway 100 = .ok (.iastore, 1) := by decide +kernel
theorem dX12_layAway_101 : decode cX12_layAway 101 = .ok (.iinc 1 1, 3) := by decide +kernel
theorem dX12_layAway_104 : decode cX12_layAway 104 = .ok (.goto (-98), 3) := by decide +kernel
theorem dX12_layAway_107 : decode cX12_layAway 107 = .ok (.iconst 0, 1) := by decide +kernel
theorem dX12_layAway_108 : decode cX12_layAway 108 = .ok (.istore_n 1, 1) := by decide +kernel
theorem dX12_layAway_109 : decode cX12_layAway 109 = .ok (.iload_n 1, 1) := by decide +kernel
theorem dX12_layAway_110 : decode cX12_layAway 110 = .ok (.aload_n 0, 1) := by decide +kernel
theorem dX12_layAway_111 : decode cX12_layAway 111 = .ok (.getfield 288, 3) := by decide +kernel
theorem dX12_layAway_114 : decode cX12_layAway 114 = .ok (.if_icmp .ge 67, 3) := by decide +kernel
theorem dX12_layAway_117 : decode cX12_layAway 117 = .ok (.iconst 0, 1) := by decide +kernel
theorem dX12_layAway_118 : decode cX12_layAway 118 = .ok (.istore_n 2, 1) := by decide +kernel
theorem dX12_layAway_119 : decode cX12_layAway 119 = .ok (.iload_n 2, 1) := by decide +kernel
theorem dX12_layAway_120 : decode cX12_layAway 120 = .ok (.bipush 49, 2) := by decide +kernel
theorem dX12_layAway_122 : decode cX12_layAway 122 = .ok (.if_icmp .ge 53, 3) := by decide +kernel
theorem dX12_layAway_125 : decode cX12_layAway 125 = .ok (.aload_n 0, 1) := by decide +kernel
theorem dX12_layAway_126 : decode cX12_layAway 126 = .ok (.getfield 95, 3) := by decide +kernel
theorem dX12_layAway_129 : decode cX12_layAway 129 = .ok (.iload_n 2, 1) := by decide +kernel
theorem dX12_layAway_130 : decode cX12_layAway 130 = .ok (.aload_n 0, 1) := by decide +kernel
theorem dX12_layAway_131 : decode cX12_layAway 131 = .ok (.getfield 95, 3) := by decide +kernel
theorem dX12_layAway_134 : decode cX12_layAway 134 = .ok (.iload_n 2, 1) := by decide +kernel
theorem dX12_layAway_135 : decode cX12_layAway 135 = .ok (.iaload, 1) := by decide +kernel
theorem dX12_layAway_136 : decode cX12_layAway 136 = .ok (.aload_n 0, 1) := by decide +kernel
theorem dX12_layAway_137 : decode cX12_layAway 137 = .ok (.getfield 95, 3) := by decide +kernel
theorem dX12_layAway_140 : decode cX12_layAway 140 = .ok (.bipush 7, 2) := by decide +kernel
theorem dX12_layAway_142 : decode cX12_layAway 142 = .ok (.iload_n 2, 1) := by decide +kernel
theorem dX12_layAway_143 : decode cX12_layAway 143 = .ok (.bipush 7, 2) := by decide +kernel
theorem dX12_layAway_145 : decode cX12_layAway 145 = .ok (.idiv, 1) := by decide +kernel
theorem dX12_layAway_146 : decode cX12_layAway 146 = .ok (.imul, 1) := by decide +kernel
theorem dX12_layAway_147 : decode cX12_layAway 147 = .ok (.iload_n 1, 1) := by decide +kernel
theorem dX12_layAway_148 : decode cX12_layAway 148 = .ok (.iadd, 1) := by decide +kernel
theorem dX12_layAway_149 : decode cX12_layAway 149 = .ok (.iaload, 1) := by decide +kernel
theorem dX12_layAway_150 : decode cX12_layAway 150 = .ok (.aload_n 0, 1) := by decide +kernel
theorem dX12_layAway_151 : decode cX12_layAway 151 = .ok (.getfield 95, 3) := by decide +kernel
theorem dX12_layAway_154 : decode cX12_layAway 154 = .ok (.bipush 7, 2) := by decide +kernel
theorem dX12_layAway_156 : decode cX12_layAway 156 = .ok (.iload_n 1, 1) := by decide +kernel
theorem dX12_layAway_157 : decode cX12_layAway 157 = .ok (.imul, 1) := by decide +kernel
theorem dX12_layAway_158 : decode cX12_layAway 158 = .ok (.iload_n 2, 1) := by decide +kernel
theorem dX12_layAway_159 : decode cX12_layAway 159 = .ok (.bipush 7, 2) := by decide +kernel
theorem dX12_layAway_161 : decode cX12_layAway 161 = .ok (.irem, 1) := by decide +kernel
theorem dX12_layAway_162 : decode cX12_layAway 162 = .ok (.iadd, 1) := by decide +kernel
theorem dX12_layAway_163 : decode cX12_layAway 163 = .ok (.iaload, 1) := by decide +kernel
theorem dX12_layAway_164 : decode cX12_layAway 164 = .ok (.iadd, 1) := by decide +kernel
theorem dX12_layAway_165 : decode cX12_layAway 165 = .ok (.invokestatic 327, 3) := by decide +kernel
theorem dX12_layAway_168 : decode cX12_layAway 168 = .ok (.iastore, 1) := by decide +kernel
theorem dX12_layAway_169 : decode cX12_layAway 169 = .ok (.iinc 2 1, 3) := by decide +kernel
theorem dX12_layAway_172 : decode cX12_layAway 172 = .ok (.goto (-53), 3) := by decide +kernel
theorem dX12_layAway_175 : decode cX12_layAway 175 = .ok (.iinc 1 1, 3) := by decide +kernel
theorem dX12_layAway_178 : decode cX12_layAway 178 = .ok (.goto (-69), 3) := by decide +kernel
theorem dX12_layAway_181 : decode cX12_layAway 181 = .ok (.return_, 1) := by decide +kernel
theorem dX12_awayOf_0 : decode cX12_awayOf 0 = .ok (.aload_n 0, 1) := by decide +kernel
theorem dX12_awayOf_1 : decode cX12_awayOf 1 = .ok (.getfield 95, 3) := by decide +kernel
theorem dX12_awayOf_4 : decode cX12_awayOf 4 = .ok (.bipush 7, 2) := by decide +kernel
theorem dX12_awayOf_6 : decode cX12_awayOf 6 = .ok (.iload_n 1, 1) := by decide +kernel
theorem dX12_awayOf_7 : decode cX12_awayOf 7 = .ok (.imul, 1) := by decide +kernel
theorem dX12_awayOf_8 : decode cX12_awayOf 8 = .ok (.iload_n 2, 1) := by decide +kernel
theorem dX12_awayOf_9 : decode cX12_awayOf 9 = .ok (.iadd, 1) := by decide +kernel
theorem dX12_awayOf_10 : decode cX12_awayOf 10 = .ok (.iaload, 1) := by decide +kernel
theorem dX12_awayOf_11 : decode cX12_awayOf 11 = .ok (.ireturn, 1) := by decide +kernel
theorem dX12_far_0 : decode cX12_far 0 = .ok (.aload_n 0, 1) := by decide +kernel
theorem dX12_far_1 : decode cX12_far 1 = .ok (.iload_n 1, 1) := by decide +kernel
theorem dX12_far_2 : decode cX12_far 2 = .ok (.invokevirtual 373, 3) := by decide +kernel
theorem dX12_far_5 : decode cX12_far 5 = .ok (.ifCond .eq 11, 3) := by decide +kernel
theorem dX12_far_8 : decode cX12_far 8 = .ok (.aload_n 0, 1) := by decide +kernel
theorem dX12_far_9 : decode cX12_far 9 = .ok (.iload_n 2, 1) := by decide +kernel
theorem dX12_far_10 : decode cX12_far 10 = .ok (.invokevirtual 373, 3) := by decide +kernel
theorem dX12_far_13 : decode cX12_far 13 = .ok (.ifCond .ne 5, 3) := by decide +kernel
theorem dX12_far_16 : decode cX12_far 16 = .ok (.iconst (-1), 1) := by decide +kernel
theorem dX12_far_17 : decode cX12_far 17 = .ok (.ireturn, 1) := by decide +kernel
theorem dX12_far_18 : decode cX12_far 18 = .ok (.aload_n 0, 1) := by decide +kernel
theorem dX12_far_19 : decode cX12_far 19 = .ok (.invokevirtual 412, 3) := by decide +kernel
theorem dX12_far_22 : decode cX12_far 22 = .ok (.aload_n 0, 1) := by decide +kernel
theorem dX12_far_23 : decode cX12_far 23 = .ok (.iload_n 1, 1) := by decide +kernel
theorem dX12_far_24 : decode cX12_far 24 = .ok (.iload_n 2, 1) := by decide +kernel
theorem dX12_far_25 : decode cX12_far 25 = .ok (.invokevirtual 415, 3) := by decide +kernel
theorem dX12_far_28 : decode cX12_far 28 = .ok (.ldc_w 411, 3) := by decide +kernel
theorem dX12_far_31 : decode cX12_far 31 = .ok (.if_icmp .lt 7, 3) := by decide +kernel
theorem dX12_far_34 : decode cX12_far 34 = .ok (.iconst (-1), 1) := by decide +kernel
theorem dX12_far_35 : decode cX12_far 35 = .ok (.goto 9, 3) := by decide +kernel
theorem dX12_far_38 : decode cX12_far 38 = .ok (.aload_n 0, 1) := by decide +kernel
theorem dX12_far_39 : decode cX12_far 39 = .ok (.iload_n 1, 1) := by decide +kernel
theorem dX12_far_40 : decode cX12_far 40 = .ok (.iload_n 2, 1) := by decide +kernel
theorem dX12_far_41 : decode cX12_far 41 = .ok (.invokevirtual 415, 3) := by decide +kernel
theorem dX12_far_44 : decode cX12_far 44 = .ok (.ireturn, 1) := by decide +kernel
theorem dX12_tryRow_0 : decode cX12_tryRow 0 = .ok (.iload_n 1, 1) := by decide +kernel
theorem dX12_tryRow_1 : decode cX12_tryRow 1 = .ok (.iload_n 2, 1) := by decide +kernel
theorem dX12_tryRow_2 : decode cX12_tryRow 2 = .ok (.if_icmp .ne 49, 3) := by decide +kernel
theorem dX12_tryRow_5 : decode cX12_tryRow 5 = .ok (.aload_n 0, 1) := by decide +kernel
theorem dX12_tryRow_6 : decode cX12_tryRow 6 = .ok (.getfield 418, 3) := by decide +kernel
theorem dX12_tryRow_9 : decode cX12_tryRow 9 = .ok (.iconst (-1), 1) := by decide +kernel
theorem dX12_tryRow_10 : decode cX12_tryRow 10 = .ok (.if_icmp .eq 29, 3) := by decide +kernel
theorem dX12_tryRow_13 : decode cX12_tryRow 13 = .ok (.iload 4, 2) := by decide +kernel
theorem dX12_tryRow_15 : decode cX12_tryRow 15 = .ok (.aload_n 0, 1) := by decide +kernel
theorem dX12_tryRow_16 : decode cX12_tryRow 16 = .ok (.getfield 421, 3) := by decide +kernel
theorem dX12_tryRow_19 : decode cX12_tryRow 19 = .ok (.if_icmp .lt 20, 3) := by decide +kernel
theorem dX12_tryRow_22 : decode cX12_tryRow 22 = .ok (.iload 4, 2) := by decide +kernel
theorem dX12_tryRow_24 : decode cX12_tryRow 24 = .ok (.aload_n 0, 1) := by decide +kernel
theorem dX12_tryRow_25 : decode cX12_tryRow 25 = .ok (.getfield 421, 3) := by decide +kernel
theorem dX12_tryRow_28 : decode cX12_tryRow 28 = .ok (.if_icmp .ne 22, 3) := by decide +kernel
theorem dX12_tryRow_31 : decode cX12_tryRow 31 = .ok (.iload_n 3, 1) := by decide +kernel
theorem dX12_tryRow_32 : decode cX12_tryRow 32 = .ok (.aload_n 0, 1) := by decide +kernel
theorem dX12_tryRow_33 : decode cX12_tryRow 33 = .ok (.getfield 418, 3) := by decide +kernel
theorem dX12_tryRow_36 : decode cX12_tryRow 36 = .ok (.if_icmp .ge 14, 3) := by decide +kernel
theorem dX12_tryRow_39 : decode cX12_tryRow 39 = .ok (.aload_n 0, 1) := by decide +kernel
theorem dX12_tryRow_40 : decode cX12_tryRow 40 = .ok (.iload_n 3, 1) := by decide +kernel
theorem dX12_tryRow_41 : decode cX12_tryRow 41 = .ok (.putfield 418, 3) := by decide +kernel
theorem dX12_tryRow_44 : decode cX12_tryRow 44 = .ok (.aload_n 0, 1) := by decide +kernel
theorem dX12_tryRow_45 : decode cX12_tryRow 45 = .ok (.iload 4, 2) := by decide +kernel
theorem dX12_tryRow_47 : decode cX12_tryRow 47 = .ok (.putfield 421, 3) := by decide +kernel
theorem dX12_tryRow_50 : decode cX12_tryRow 50 = .ok (.return_, 1) := by decide +kernel
theorem dX12_tryRow_51 : decode cX12_tryRow 51 = .ok (.iconst 0, 1) := by decide +kernel
theorem dX12_tryRow_52 : decode cX12_tryRow 52 = .ok (.istore 5, 2) := by decide +kernel
theorem dX12_tryRow_54 : decode cX12_tryRow 54 = .ok (.iload 5, 2) := by decide +kernel
theorem dX12_tryRow_56 : decode cX12_tryRow 56 = .ok (.aload_n 0, 1) := by decide +kernel
theorem dX12_tryRow_57 : decode cX12_tryRow 57 = .ok (.getfield 288, 3) := by decide +kernel
theorem dX12_tryRow_60 : decode cX12_tryRow 60 = .ok (.if_icmp .ge 80, 3) := by decide +kernel
theorem dX12_tryRow_63 : decode cX12_tryRow 63 = .ok (.iload 5, 2) := by decide +kernel
theorem dX12_tryRow_65 : decode cX12_tryRow 65 = .ok (.iload_n 1, 1) := by decide +kernel
theorem dX12_tryRow_66 : decode cX12_tryRow 66 = .ok (.if_icmp .eq 68, 3) := by decide +kernel
theorem dX12_tryRow_69 : decode cX12_tryRow 69 = .ok (.aload_n 0, 1) := by decide +kernel
theorem dX12_tryRow_70 : decode cX12_tryRow 70 = .ok (.getfield 92, 3) := by decide +kernel
theorem dX12_tryRow_73 : decode cX12_tryRow 73 = .ok (.bipush 7, 2) := by decide +kernel
theorem dX12_tryRow_75 : decode cX12_tryRow 75 = .ok (.iload_n 1, 1) := by decide +kernel
theorem dX12_tryRow_76 : decode cX12_tryRow 76 = .ok (.imul, 1) := by decide +kernel
theorem dX12_tryRow_77 : decode cX12_tryRow 77 = .ok (.iload 5, 2) := by decide +kernel
theorem dX12_tryRow_79 : decode cX12_tryRow 79 = .ok (.iadd, 1) := by decide +kernel
theorem dX12_tryRow_80 : decode cX12_tryRow 80 = .ok (.iaload, 1) := by decide +kernel
theorem dX12_tryRow_81 : decode cX12_tryRow 81 = .ok (.ldc_w 411, 3) := by decide +kernel
theorem dX12_tryRow_84 : decode cX12_tryRow 84 = .ok (.if_icmp .ge 50, 3) := by decide +kernel
theorem dX12_tryRow_87 : decode cX12_tryRow 87 = .ok (.aload_n 0, 1) := by decide +kernel
theorem dX12_tryRow_88 : decode cX12_tryRow 88 = .ok (.getfield 92, 3) := by decide +kernel
theorem dX12_tryRow_91 : decode cX12_tryRow 91 = .ok (.bipush 7, 2) := by decide +kernel
theorem dX12_tryRow_93 : decode cX12_tryRow 93 = .ok (.iload_n 1, 1) := by decide +kernel
theorem dX12_tryRow_94 : decode cX12_tryRow 94 = .ok (.imul, 1) := by decide +kernel
theorem dX12_tryRow_95 : decode cX12_tryRow 95 = .ok (.iload 5, 2) := by decide +kernel
theorem dX12_tryRow_97 : decode cX12_tryRow 97 = .ok (.iadd, 1) := by decide +kernel
theorem dX12_tryRow_98 : decode cX12_tryRow 98 = .ok (.iaload, 1) := by decide +kernel
theorem dX12_tryRow_99 : decode cX12_tryRow 99 = .ok (.aload_n 0, 1) := by decide +kernel
theorem dX12_tryRow_100 : decode cX12_tryRow 100 = .ok (.iload 5, 2) := by decide +kernel
theorem dX12_tryRow_102 : decode cX12_tryRow 102 = .ok (.iload_n 2, 1) := by decide +kernel
theorem dX12_tryRow_103 : decode cX12_tryRow 103 = .ok (.invokevirtual 415, 3) := by decide +kernel
theorem dX12_tryRow_106 : decode cX12_tryRow 106 = .ok (.iadd, 1) := by decide +kernel
theorem dX12_tryRow_107 : decode cX12_tryRow 107 = .ok (.aload_n 0, 1) := by decide +kernel
theorem dX12_tryRow_108 : decode cX12_tryRow 108 = .ok (.iload_n 1, 1) := by decide +kernel
theorem dX12_tryRow_109 : decode cX12_tryRow 109 = .ok (.iload_n 2, 1) := by decide +kernel
theorem dX12_tryRow_110 : decode cX12_tryRow 110 = .ok (.invokevirtual 415, 3) := by decide +kernel
theorem dX12_tryRow_113 : decode cX12_tryRow 113 = .ok (.if_icmp .ne 21, 3) := by decide +kernel
theorem dX12_tryRow_116 : decode cX12_tryRow 116 = .ok (.aload_n 0, 1) := by decide +kernel
theorem dX12_tryRow_117 : decode cX12_tryRow 117 = .ok (.iload 5, 2) := by decide +kernel
theorem dX12_tryRow_119 : decode cX12_tryRow 119 = .ok (.iload_n 2, 1) := by decide +kernel
theorem dX12_tryRow_120 : decode cX12_tryRow 120 = .ok (.bipush 10, 2) := by decide +kernel
theorem dX12_tryRow_122 : decode cX12_tryRow 122 = .ok (.iload_n 3, 1) := by decide +kernel
theorem dX12_tryRow_123 : decode cX12_tryRow 123 = .ok (.imul, 1) := by decide +kernel
theorem dX12_tryRow_124 : decode cX12_tryRow 124 = .ok (.iload 5, 2) := by decide +kernel
theorem dX12_tryRow_126 : decode cX12_tryRow 126 = .ok (.iadd, 1) := by decide +kernel
theorem dX12_tryRow_127 : decode cX12_tryRow 127 = .ok (.iload 4, 2) := by decide +kernel
theorem dX12_tryRow_129 : decode cX12_tryRow 129 = .ok (.iconst 1, 1) := by decide +kernel
theorem dX12_tryRow_130 : decode cX12_tryRow 130 = .ok (.iadd, 1) := by decide +kernel
theorem dX12_tryRow_131 : decode cX12_tryRow 131 = .ok (.invokevirtual 424, 3) := by decide +kernel
theorem dX12_tryRow_134 : decode cX12_tryRow 134 = .ok (.iinc 5 1, 3) := by decide +kernel
theorem dX12_tryRow_137 : decode cX12_tryRow 137 = .ok (.goto (-83), 3) := by decide +kernel
theorem dX12_tryRow_140 : decode cX12_tryRow 140 = .ok (.return_, 1) := by decide +kernel
theorem dX12_row_0 : decode cX12_row 0 = .ok (.aload_n 0, 1) := by decide +kernel
theorem dX12_row_1 : decode cX12_row 1 = .ok (.iload_n 1, 1) := by decide +kernel
theorem dX12_row_2 : decode cX12_row 2 = .ok (.iload_n 2, 1) := by decide +kernel
theorem dX12_row_3 : decode cX12_row 3 = .ok (.invokevirtual 428, 3) := by decide +kernel
theorem dX12_row_6 : decode cX12_row 6 = .ok (.iconst (-1), 1) := by decide +kernel
theorem dX12_row_7 : decode cX12_row 7 = .ok (.if_icmp .ne 5, 3) := by decide +kernel
theorem dX12_row_10 : decode cX12_row 10 = .ok (.iconst (-1), 1) := by decide +kernel
theorem dX12_row_11 : decode cX12_row 11 = .ok (.ireturn, 1) := by decide +kernel
theorem dX12_row_12 : decode cX12_row 12 = .ok (.aload_n 0, 1) := by decide +kernel
theorem dX12_row_13 : decode cX12_row 13 = .ok (.iconst (-1), 1) := by decide +kernel
theorem dX12_row_14 : decode cX12_row 14 = .ok (.putfield 418, 3) := by decide +kernel
theorem dX12_row_17 : decode cX12_row 17 = .ok (.aload_n 0, 1) := by decide +kernel
theorem dX12_row_18 : decode cX12_row 18 = .ok (.iload_n 1, 1) := by decide +kernel
theorem dX12_row_19 : decode cX12_row 19 = .ok (.iload_n 2, 1) := by decide +kernel
theorem dX12_row_20 : decode cX12_row 20 = .ok (.iload_n 1, 1) := by decide +kernel
theorem dX12_row_21 : decode cX12_row 21 = .ok (.iconst 1, 1) := by decide +kernel
theorem dX12_row_22 : decode cX12_row 22 = .ok (.invokevirtual 424, 3) := by decide +kernel
theorem dX12_row_25 : decode cX12_row 25 = .ok (.aload_n 0, 1) := by decide +kernel
theorem dX12_row_26 : decode cX12_row 26 = .ok (.getfield 418, 3) := by decide +kernel
theorem dX12_row_29 : decode cX12_row 29 = .ok (.ireturn, 1) := by decide +kernel
theorem dX12_putAside_0 : decode cX12_putAside 0 = .ok (.iconst 0, 1) := by decide +kernel
theorem dX12_putAside_1 : decode cX12_putAside 1 = .ok (.istore_n 1, 1) := by decide +kernel
theorem dX12_putAside_2 : decode cX12_putAside 2 = .ok (.iload_n 1, 1) := by decide +kernel
theorem dX12_putAside_3 : decode cX12_putAside 3 = .ok (.bipush 34, 2) := by decide +kernel
theorem dX12_putAside_5 : decode cX12_putAside 5 = .ok (.if_icmp .ge 21, 3) := by decide +kernel
theorem dX12_putAside_8 : decode cX12_putAside 8 = .ok (.aload_n 0, 1) := by decide +kernel
theorem dX12_putAside_9 : decode cX12_putAside 9 = .ok (.getfield 98, 3) := by decide +kernel
theorem dX12_putAside_12 : decode cX12_putAside 12 = .ok (.iload_n 1, 1) := by decide +kernel
theorem dX12_putAside_13 : decode cX12_putAside 13 = .ok (.aload_n 0, 1) := by decide +kernel
theorem dX12_putAside_14 : decode cX12_putAside 14 = .ok (.getfield 70, 3) := by decide +kernel
theorem dX12_putAside_17 : decode cX12_putAside 17 = .ok (.iload_n 1, 1) := by decide +kernel
theorem dX12_putAside_18 : decode cX12_putAside 18 = .ok (.iaload, 1) := by decide +kernel
theorem dX12_putAside_19 : decode cX12_putAside 19 = .ok (.iastore, 1) := by decide +kernel
theorem dX12_putAside_20 : decode cX12_putAside 20 = .ok (.iinc 1 1, 3) := by decide +kernel
theorem dX12_putAside_23 : decode cX12_putAside 23 = .ok (.goto (-21), 3) := by decide +kernel
theorem dX12_putAside_26 : decode cX12_putAside 26 = .ok (.return_, 1) := by decide +kernel
theorem dX12_takeBack_0 : decode cX12_takeBack 0 = .ok (.iconst 0, 1) := by decide +kernel
theorem dX12_takeBack_1 : decode cX12_takeBack 1 = .ok (.istore_n 1, 1) := by decide +kernel
theorem dX12_takeBack_2 : decode cX12_takeBack 2 = .ok (.iload_n 1, 1) := by decide +kernel
theorem dX12_takeBack_3 : decode cX12_takeBack 3 = .ok (.bipush 34, 2) := by decide +kernel
theorem dX12_takeBack_5 : decode cX12_takeBack 5 = .ok (.if_icmp .ge 21, 3) := by decide +kernel
theorem dX12_takeBack_8 : decode cX12_takeBack 8 = .ok (.aload_n 0, 1) := by decide +kernel
theorem dX12_takeBack_9 : decode cX12_takeBack 9 = .ok (.getfield 70, 3) := by decide +kernel
theorem dX12_takeBack_12 : decode cX12_takeBack 12 = .ok (.iload_n 1, 1) := by decide +kernel
theorem dX12_takeBack_13 : decode cX12_takeBack 13 = .ok (.aload_n 0, 1) := by decide +kernel
theorem dX12_takeBack_14 : decode cX12_takeBack 14 = .ok (.getfield 98, 3) := by decide +kernel
theorem dX12_takeBack_17 : decode cX12_takeBack 17 = .ok (.iload_n 1, 1) := by decide +kernel
theorem dX12_takeBack_18 : decode cX12_takeBack 18 = .ok (.iaload, 1) := by decide +kernel
theorem dX12_takeBack_19 : decode cX12_takeBack 19 = .ok (.iastore, 1) := by decide +kernel
theorem dX12_takeBack_20 : decode cX12_takeBack 20 = .ok (.iinc 1 1, 3) := by decide +kernel
theorem dX12_takeBack_23 : decode cX12_takeBack 23 = .ok (.goto (-21), 3) := by decide +kernel
theorem dX12_takeBack_26 : decode cX12_takeBack 26 = .ok (.return_, 1) := by decide +kernel
theorem dX12_where_0 : decode cX12_where 0 = .ok (.aload_n 0, 1) := by decide +kernel
theorem dX12_where_1 : decode cX12_where 1 = .ok (.iload_n 1, 1) := by decide +kernel
theorem dX12_where_2 : decode cX12_where 2 = .ok (.invokevirtual 370, 3) := by decide +kernel
theorem dX12_where_5 : decode cX12_where 5 = .ok (.ifCond .eq 13, 3) := by decide +kernel
theorem dX12_where_8 : decode cX12_where 8 = .ok (.iload_n 2, 1) := by decide +kernel
theorem dX12_where_9 : decode cX12_where 9 = .ok (.iconst 0, 1) := by decide +kernel
theorem dX12_where_10 : decode cX12_where 10 = .ok (.bipush 60, 2) := by decide +kernel
theorem dX12_where_12 : decode cX12_where 12 = .ok (.invokestatic 235, 3) := by decide +kernel
theorem dX12_where_15 : decode cX12_where 15 = .ok (.ifCond .ne 5, 3) := by decide +kernel
theorem dX12_where_18 : decode cX12_where 18 = .ok (.iconst (-1), 1) := by decide +kernel
theorem dX12_where_19 : decode cX12_where 19 = .ok (.ireturn, 1) := by decide +kernel
theorem dX12_where_20 : decode cX12_where 20 = .ok (.aload_n 0, 1) := by decide +kernel
theorem dX12_where_21 : decode cX12_where 21 = .ok (.invokevirtual 431, 3) := by decide +kernel
theorem dX12_where_24 : decode cX12_where 24 = .ok (.iconst 0, 1) := by decide +kernel
theorem dX12_where_25 : decode cX12_where 25 = .ok (.istore_n 3, 1) := by decide +kernel
theorem dX12_where_26 : decode cX12_where 26 = .ok (.iload_n 3, 1) := by decide +kernel
theorem dX12_where_27 : decode cX12_where 27 = .ok (.iload_n 2, 1) := by decide +kernel
theorem dX12_where_28 : decode cX12_where 28 = .ok (.if_icmp .ge 13, 3) := by decide +kernel
theorem dX12_where_31 : decode cX12_where 31 = .ok (.aload_n 0, 1) := by decide +kernel
theorem dX12_where_32 : decode cX12_where 32 = .ok (.invokevirtual 361, 3) := by decide +kernel
theorem dX12_where_35 : decode cX12_where 35 = .ok (.iinc 3 1, 3) := by decide +kernel
theorem dX12_where_38 : decode cX12_where 38 = .ok (.goto (-12), 3) := by decide +kernel
theorem dX12_where_41 : decode cX12_where 41 = .ok (.aload_n 0, 1) := by decide +kernel
theorem dX12_where_42 : decode cX12_where 42 = .ok (.getfield 70, 3) := by decide +kernel
theorem dX12_where_45 : decode cX12_where 45 = .ok (.iconst 0, 1) := by decide +kernel
theorem dX12_where_46 : decode cX12_where 46 = .ok (.iload_n 1, 1) := by decide +kernel
theorem dX12_where_47 : decode cX12_where 47 = .ok (.iadd, 1) := by decide +kernel
theorem dX12_where_48 : decode cX12_where 48 = .ok (.iaload, 1) := by decide +kernel
theorem dX12_where_49 : decode cX12_where 49 = .ok (.istore_n 3, 1) := by decide +kernel
theorem dX12_where_50 : decode cX12_where 50 = .ok (.aload_n 0, 1) := by decide +kernel
theorem dX12_where_51 : decode cX12_where 51 = .ok (.invokevirtual 434, 3) := by decide +kernel
theorem dX12_where_54 : decode cX12_where 54 = .ok (.iload_n 3, 1) := by decide +kernel
theorem dX12_where_55 : decode cX12_where 55 = .ok (.ireturn, 1) := by decide +kernel
theorem dX12_done_0 : decode cX12_done 0 = .ok (.aload_n 0, 1) := by decide +kernel
theorem dX12_done_1 : decode cX12_done 1 = .ok (.iload_n 1, 1) := by decide +kernel
theorem dX12_done_2 : decode cX12_done 2 = .ok (.invokevirtual 370, 3) := by decide +kernel
theorem dX12_done_5 : decode cX12_done 5 = .ok (.ifCond .ne 5, 3) := by decide +kernel
theorem dX12_done_8 : decode cX12_done 8 = .ok (.iconst (-1), 1) := by decide +kernel
theorem dX12_done_9 : decode cX12_done 9 = .ok (.ireturn, 1) := by decide +kernel
theorem dX12_done_10 : decode cX12_done 10 = .ok (.aload_n 0, 1) := by decide +kernel
theorem dX12_done_11 : decode cX12_done 11 = .ok (.invokevirtual 431, 3) := by decide +kernel
theorem dX12_done_14 : decode cX12_done 14 = .ok (.iconst 0, 1) := by decide +kernel
theorem dX12_done_15 : decode cX12_done 15 = .ok (.istore_n 2, 1) := by decide +kernel
theorem dX12_done_16 : decode cX12_done 16 = .ok (.iload_n 2, 1) := by decide +kernel
theorem dX12_done_17 : decode cX12_done 17 = .ok (.bipush 60, 2) := by decide +kernel
theorem dX12_done_19 : decode cX12_done 19 = .ok (.if_icmp .ge 25, 3) := by decide +kernel
theorem dX12_done_22 : decode cX12_done 22 = .ok (.aload_n 0, 1) := by decide +kernel
theorem dX12_done_23 : decode cX12_done 23 = .ok (.getfield 70, 3) := by decide +kernel
theorem dX12_done_26 : decode cX12_done 26 = .ok (.iconst 4, 1) := by decide +kernel
theorem dX12_done_27 : decode cX12_done 27 = .ok (.iload_n 1, 1) := by decide +kernel
theorem dX12_done_28 : decode cX12_done 28 = .ok (.iadd, 1) := by decide +kernel
theorem dX12_done_29 : decode cX12_done 29 = .ok (.iaload, 1) := by decide +kernel
theorem dX12_done_30 : decode cX12_done 30 = .ok (.iconst (-1), 1) := by decide +kernel
theorem dX12_done_31 : decode cX12_done 31 = .ok (.if_icmp .eq 13, 3) := by decide +kernel
theorem dX12_done_34 : decode cX12_done 34 = .ok (.aload_n 0, 1) := by decide +kernel
theorem dX12_done_35 : decode cX12_done 35 = .ok (.invokevirtual 361, 3) := by decide +kernel
theorem dX12_done_38 : decode cX12_done 38 = .ok (.iinc 2 1, 3) := by decide +kernel
theorem dX12_done_41 : decode cX12_done 41 = .ok (.goto (-25), 3) := by decide +kernel
theorem dX12_done_44 : decode cX12_done 44 = .ok (.aload_n 0, 1) := by decide +kernel
theorem dX12_done_45 : decode cX12_done 45 = .ok (.getfield 70, 3) := by decide +kernel
theorem dX12_done_48 : decode cX12_done 48 = .ok (.iconst 4, 1) := by decide +kernel
theorem dX12_done_49 : decode cX12_done 49 = .ok (.iload_n 1, 1) := by decide +kernel
theorem dX12_done_50 : decode cX12_done 50 = .ok (.iadd, 1) := by decide +kernel
theorem dX12_done_51 : decode cX12_done 51 = .ok (.iaload, 1) := by decide +kernel
theorem dX12_done_52 : decode cX12_done 52 = .ok (.iconst (-1), 1) := by decide +kernel
theorem dX12_done_53 : decode cX12_done 53 = .ok (.if_icmp .ne 7, 3) := by decide +kernel
theorem dX12_done_56 : decode cX12_done 56 = .ok (.iconst 1, 1) := by decide +kernel
theorem dX12_done_57 : decode cX12_done 57 = .ok (.goto 4, 3) := by decide +kernel
theorem dX12_done_60 : decode cX12_done 60 = .ok (.iconst 0, 1) := by decide +kernel
theorem dX12_done_61 : decode cX12_done 61 = .ok (.istore_n 3, 1) := by decide +kernel
theorem dX12_done_62 : decode cX12_done 62 = .ok (.aload_n 0, 1) := by decide +kernel
theorem dX12_done_63 : decode cX12_done 63 = .ok (.invokevirtual 434, 3) := by decide +kernel
theorem dX12_done_66 : decode cX12_done 66 = .ok (.iload_n 3, 1) := by decide +kernel
theorem dX12_done_67 : decode cX12_done 67 = .ok (.ifCond .eq 7, 3) := by decide +kernel
theorem dX12_done_70 : decode cX12_done 70 = .ok (.iload_n 2, 1) := by decide +kernel
theorem dX12_done_71 : decode cX12_done 71 = .ok (.goto 4, 3) := by decide +kernel
theorem dX12_done_74 : decode cX12_done 74 = .ok (.iconst (-1), 1) := by decide +kernel
theorem dX12_done_75 : decode cX12_done 75 = .ok (.ireturn, 1) := by decide +kernel
theorem dX12_reachBy_0 : decode cX12_reachBy 0 = .ok (.iconst 1, 1) := by decide +kernel
theorem dX12_reachBy_1 : decode cX12_reachBy 1 = .ok (.iload_n 1, 1) := by decide +kernel
theorem dX12_reachBy_2 : decode cX12_reachBy 2 = .ok (.ishl, 1) := by decide +kernel
theorem dX12_reachBy_3 : decode cX12_reachBy 3 = .ok (.istore_n 3, 1) := by decide +kernel
theorem dX12_reachBy_4 : decode cX12_reachBy 4 = .ok (.iconst 1, 1) := by decide +kernel
theorem dX12_reachBy_5 : decode cX12_reachBy 5 = .ok (.istore 4, 2) := by decide +kernel
theorem dX12_reachBy_7 : decode cX12_reachBy 7 = .ok (.iload 4, 2) := by decide +kernel
theorem dX12_reachBy_9 : decode cX12_reachBy 9 = .ok (.ifCond .eq 86, 3) := by decide +kernel
theorem dX12_reachBy_12 : decode cX12_reachBy 12 = .ok (.iconst 0, 1) := by decide +kernel
theorem dX12_reachBy_13 : decode cX12_reachBy 13 = .ok (.istore 4, 2) := by decide +kernel
theorem dX12_reachBy_15 : decode cX12_reachBy 15 = .ok (.iconst 0, 1) := by decide +kernel
theorem dX12_reachBy_16 : decode cX12_reachBy 16 = .ok (.istore 5, 2) := by decide +kernel
theorem dX12_reachBy_18 : decode cX12_reachBy 18 = .ok (.iload 5, 2) := by decide +kernel
theorem dX12_reachBy_20 : decode cX12_reachBy 20 = .ok (.aload_n 0, 1) := by decide +kernel
theorem dX12_reachBy_21 : decode cX12_reachBy 21 = .ok (.getfield 291, 3) := by decide +kernel
theorem dX12_reachBy_24 : decode cX12_reachBy 24 = .ok (.if_icmp .ge 68, 3) := by decide +kernel
theorem dX12_reachBy_27 : decode cX12_reachBy 27 = .ok (.iload_n 2, 1) := by decide +kernel
theorem dX12_reachBy_28 : decode cX12_reachBy 28 = .ok (.iload 5, 2) := by decide +kernel
theorem dX12_reachBy_30 : decode cX12_reachBy 30 = .ok (.invokestatic 246, 3) := by decide +kernel
theorem dX12_reachBy_33 : decode cX12_reachBy 33 = .ok (.ifCond .eq 53, 3) := by decide +kernel
theorem dX12_reachBy_36 : decode cX12_reachBy 36 = .ok (.iload_n 3, 1) := by decide +kernel
theorem dX12_reachBy_37 : decode cX12_reachBy 37 = .ok (.aload_n 0, 1) := by decide +kernel
theorem dX12_reachBy_38 : decode cX12_reachBy 38 = .ok (.iload 5, 2) := by decide +kernel
theorem dX12_reachBy_40 : decode cX12_reachBy 40 = .ok (.iconst 0, 1) := by decide +kernel
theorem dX12_reachBy_41 : decode cX12_reachBy 41 = .ok (.invokevirtual 316, 3) := by decide +kernel
theorem dX12_reachBy_44 : decode cX12_reachBy 44 = .ok (.invokestatic 246, 3) := by decide +kernel
theorem dX12_reachBy_47 : decode cX12_reachBy 47 = .ok (.iload_n 3, 1) := by decide +kernel
theorem dX12_reachBy_48 : decode cX12_reachBy 48 = .ok (.aload_n 0, 1) := by decide +kernel
theorem dX12_reachBy_49 : decode cX12_reachBy 49 = .ok (.iload 5, 2) := by decide +kernel
theorem dX12_reachBy_51 : decode cX12_reachBy 51 = .ok (.iconst 1, 1) := by decide +kernel
theorem dX12_reachBy_52 : decode cX12_reachBy 52 = .ok (.invokevirtual 316, 3) := by decide +kernel
theorem dX12_reachBy_55 : decode cX12_reachBy 55 = .ok (.invokestatic 246, 3) := by decide +kernel
theorem dX12_reachBy_58 : decode cX12_reachBy 58 = .ok (.if_icmp .eq 28, 3) := by decide +kernel
theorem dX12_reachBy_61 : decode cX12_reachBy 61 = .ok (.iload_n 3, 1) := by decide +kernel
theorem dX12_reachBy_62 : decode cX12_reachBy 62 = .ok (.iconst 1, 1) := by decide +kernel
theorem dX12_reachBy_63 : decode cX12_reachBy 63 = .ok (.aload_n 0, 1) := by decide +kernel
theorem dX12_reachBy_64 : decode cX12_reachBy 64 = .ok (.iload 5, 2) := by decide +kernel
theorem dX12_reachBy_66 : decode cX12_reachBy 66 = .ok (.iconst 0, 1) := by decide +kernel
theorem dX12_reachBy_67 : decode cX12_reachBy 67 = .ok (.invokevirtual 316, 3) := by decide +kernel
theorem dX12_reachBy_70 : decode cX12_reachBy 70 = .ok (.ishl, 1) := by decide +kernel
theorem dX12_reachBy_71 : decode cX12_reachBy 71 = .ok (.iconst 1, 1) := by decide +kernel
theorem dX12_reachBy_72 : decode cX12_reachBy 72 = .ok (.aload_n 0, 1) := by decide +kernel
theorem dX12_reachBy_73 : decode cX12_reachBy 73 = .ok (.iload 5, 2) := by decide +kernel
theorem dX12_reachBy_75 : decode cX12_reachBy 75 = .ok (.iconst 1, 1) := by decide +kernel
theorem dX12_reachBy_76 : decode cX12_reachBy 76 = .ok (.invokevirtual 316, 3) := by decide +kernel
theorem dX12_reachBy_79 : decode cX12_reachBy 79 = .ok (.ishl, 1) := by decide +kernel
theorem dX12_reachBy_80 : decode cX12_reachBy 80 = .ok (.ior, 1) := by decide +kernel
theorem dX12_reachBy_81 : decode cX12_reachBy 81 = .ok (.ior, 1) := by decide +kernel
theorem dX12_reachBy_82 : decode cX12_reachBy 82 = .ok (.istore_n 3, 1) := by decide +kernel
theorem dX12_reachBy_83 : decode cX12_reachBy 83 = .ok (.iconst 1, 1) := by decide +kernel
theorem dX12_reachBy_84 : decode cX12_reachBy 84 = .ok (.istore 4, 2) := by decide +kernel
theorem dX12_reachBy_86 : decode cX12_reachBy 86 = .ok (.iinc 5 1, 3) := by decide +kernel
theorem dX12_reachBy_89 : decode cX12_reachBy 89 = .ok (.goto (-71), 3) := by decide +kernel
theorem dX12_reachBy_92 : decode cX12_reachBy 92 = .ok (.goto (-85), 3) := by decide +kernel
theorem dX12_reachBy_95 : decode cX12_reachBy 95 = .ok (.iload_n 3, 1) := by decide +kernel
theorem dX12_reachBy_96 : decode cX12_reachBy 96 = .ok (.ireturn, 1) := by decide +kernel
theorem dX12_openOnes_0 : decode cX12_openOnes 0 = .ok (.iconst 1, 1) := by decide +kernel
theorem dX12_openOnes_1 : decode cX12_openOnes 1 = .ok (.aload_n 0, 1) := by decide +kernel
theorem dX12_openOnes_2 : decode cX12_openOnes 2 = .ok (.getfield 291, 3) := by decide +kernel
theorem dX12_openOnes_5 : decode cX12_openOnes 5 = .ok (.ishl, 1) := by decide +kernel
theorem dX12_openOnes_6 : decode cX12_openOnes 6 = .ok (.iconst 1, 1) := by decide +kernel
theorem dX12_openOnes_7 : decode cX12_openOnes 7 = .ok (.isub, 1) := by decide +kernel
theorem dX12_openOnes_8 : decode cX12_openOnes 8 = .ok (.aload_n 0, 1) := by decide +kernel
theorem dX12_openOnes_9 : decode cX12_openOnes 9 = .ok (.getfield 70, 3) := by decide +kernel
theorem dX12_openOnes_12 : decode cX12_openOnes 12 = .ok (.bipush 31, 2) := by decide +kernel
theorem dX12_openOnes_14 : decode cX12_openOnes 14 = .ok (.iaload, 1) := by decide +kernel
theorem dX12_openOnes_15 : decode cX12_openOnes 15 = .ok (.iconst (-1), 1) := by decide +kernel
theorem dX12_openOnes_16 : decode cX12_openOnes 16 = .ok (.ixor, 1) := by decide +kernel
theorem dX12_openOnes_17 : decode cX12_openOnes 17 = .ok (.iand, 1) := by decide +kernel
theorem dX12_openOnes_18 : decode cX12_openOnes 18 = .ok (.ireturn, 1) := by decide +kernel
theorem dX12_areTwo_0 : decode cX12_areTwo 0 = .ok (.aload_n 0, 1) := by decide +kernel
theorem dX12_areTwo_1 : decode cX12_areTwo 1 = .ok (.iload_n 1, 1) := by decide +kernel
theorem dX12_areTwo_2 : decode cX12_areTwo 2 = .ok (.invokevirtual 373, 3) := by decide +kernel
theorem dX12_areTwo_5 : decode cX12_areTwo 5 = .ok (.ifCond .eq 20, 3) := by decide +kernel
theorem dX12_areTwo_8 : decode cX12_areTwo 8 = .ok (.aload_n 0, 1) := by decide +kernel
theorem dX12_areTwo_9 : decode cX12_areTwo 9 = .ok (.iload_n 2, 1) := by decide +kernel
theorem dX12_areTwo_10 : decode cX12_areTwo 10 = .ok (.invokevirtual 373, 3) := by decide +kernel
theorem dX12_areTwo_13 : decode cX12_areTwo 13 = .ok (.ifCond .eq 12, 3) := by decide +kernel
theorem dX12_areTwo_16 : decode cX12_areTwo 16 = .ok (.iload_n 1, 1) := by decide +kernel
theorem dX12_areTwo_17 : decode cX12_areTwo 17 = .ok (.iload_n 2, 1) := by decide +kernel
theorem dX12_areTwo_18 : decode cX12_areTwo 18 = .ok (.if_icmp .eq 7, 3) := by decide +kernel
theorem dX12_areTwo_21 : decode cX12_areTwo 21 = .ok (.iconst 1, 1) := by decide +kernel
theorem dX12_areTwo_22 : decode cX12_areTwo 22 = .ok (.goto 4, 3) := by decide +kernel
theorem dX12_areTwo_25 : decode cX12_areTwo 25 = .ok (.iconst 0, 1) := by decide +kernel
theorem dX12_areTwo_26 : decode cX12_areTwo 26 = .ok (.ireturn, 1) := by decide +kernel
theorem dX12_fewestOf_0 : decode cX12_fewestOf 0 = .ok (.iconst (-1), 1) := by decide +kernel
theorem dX12_fewestOf_1 : decode cX12_fewestOf 1 = .ok (.istore 5, 2) := by decide +kernel
theorem dX12_fewestOf_3 : decode cX12_fewestOf 3 = .ok (.iconst 0, 1) := by decide +kernel
theorem dX12_fewestOf_4 : decode cX12_fewestOf 4 = .ok (.istore 6, 2) := by decide +kernel
theorem dX12_fewestOf_6 : decode cX12_fewestOf 6 = .ok (.iload 6, 2) := by decide +kernel
theorem dX12_fewestOf_8 : decode cX12_fewestOf 8 = .ok (.iconst 1, 1) := by decide +kernel
theorem dX12_fewestOf_9 : decode cX12_fewestOf 9 = .ok (.aload_n 0, 1) := by decide +kernel
theorem dX12_fewestOf_10 : decode cX12_fewestOf 10 = .ok (.getfield 291, 3) := by decide +kernel
theorem dX12_fewestOf_13 : decode cX12_fewestOf 13 = .ok (.ishl, 1) := by decide +kernel
theorem dX12_fewestOf_14 : decode cX12_fewestOf 14 = .ok (.if_icmp .ge 74, 3) := by decide +kernel
theorem dX12_fewestOf_17 : decode cX12_fewestOf 17 = .ok (.iload 6, 2) := by decide +kernel
theorem dX12_fewestOf_19 : decode cX12_fewestOf 19 = .ok (.iload_n 1, 1) := by decide +kernel
theorem dX12_fewestOf_20 : decode cX12_fewestOf 20 = .ok (.iconst (-1), 1) := by decide +kernel
theorem dX12_fewestOf_21 : decode cX12_fewestOf 21 = .ok (.ixor, 1) := by decide +kernel
theorem dX12_fewestOf_22 : decode cX12_fewestOf 22 = .ok (.iand, 1) := by decide +kernel
theorem dX12_fewestOf_23 : decode cX12_fewestOf 23 = .ok (.ifCond .ne 26, 3) := by decide +kernel
theorem dX12_fewestOf_26 : decode cX12_fewestOf 26 = .ok (.iload 5, 2) := by decide +kernel
theorem dX12_fewestOf_28 : decode cX12_fewestOf 28 = .ok (.iconst (-1), 1) := by decide +kernel
theorem dX12_fewestOf_29 : decode cX12_fewestOf 29 = .ok (.if_icmp .eq 16, 3) := by decide +kernel
theorem dX12_fewestOf_32 : decode cX12_fewestOf 32 = .ok (.iload 6, 2) := by decide +kernel
theorem dX12_fewestOf_34 : decode cX12_fewestOf 34 = .ok (.invokestatic 319, 3) := by decide +kernel
theorem dX12_fewestOf_37 : decode cX12_fewestOf 37 = .ok (.iload 5, 2) := by decide +kernel
theorem dX12_fewestOf_39 : decode cX12_fewestOf 39 = .ok (.invokestatic 319, 3) := by decide +kernel
theorem dX12_fewestOf_42 : decode cX12_fewestOf 42 = .ok (.if_icmp .ge 7, 3) := by decide +kernel
theorem dX12_fewestOf_45 : decode cX12_fewestOf 45 = .ok (.iconst 1, 1) := by decide +kernel
theorem dX12_fewestOf_46 : decode cX12_fewestOf 46 = .ok (.goto 4, 3) := by decide +kernel
theorem dX12_fewestOf_49 : decode cX12_fewestOf 49 = .ok (.iconst 0, 1) := by decide +kernel
theorem dX12_fewestOf_50 : decode cX12_fewestOf 50 = .ok (.istore 7, 2) := by decide +kernel
theorem dX12_fewestOf_52 : decode cX12_fewestOf 52 = .ok (.iload 7, 2) := by decide +kernel
theorem dX12_fewestOf_54 : decode cX12_fewestOf 54 = .ok (.ifCond .eq 28, 3) := by decide +kernel
theorem dX12_fewestOf_57 : decode cX12_fewestOf 57 = .ok (.aload_n 0, 1) := by decide +kernel
theorem dX12_fewestOf_58 : decode cX12_fewestOf 58 = .ok (.iload_n 2, 1) := by decide +kernel
theorem dX12_fewestOf_59 : decode cX12_fewestOf 59 = .ok (.aload_n 0, 1) := by decide +kernel
theorem dX12_fewestOf_60 : decode cX12_fewestOf 60 = .ok (.invokevirtual 437, 3) := by decide +kernel
theorem dX12_fewestOf_63 : decode cX12_fewestOf 63 = .ok (.iload 6, 2) := by decide +kernel
theorem dX12_fewestOf_65 : decode cX12_fewestOf 65 = .ok (.ixor, 1) := by decide +kernel
theorem dX12_fewestOf_66 : decode cX12_fewestOf 66 = .ok (.invokevirtual 440, 3) := by decide +kernel
theorem dX12_fewestOf_69 : decode cX12_fewestOf 69 = .ok (.iload_n 3, 1) := by decide +kernel
theorem dX12_fewestOf_70 : decode cX12_fewestOf 70 = .ok (.invokestatic 246, 3) := by decide +kernel
theorem dX12_fewestOf_73 : decode cX12_fewestOf 73 = .ok (.iload 4, 2) := by decide +kernel
theorem dX12_fewestOf_75 : decode cX12_fewestOf 75 = .ok (.if_icmp .eq 7, 3) := by decide +kernel
theorem dX12_fewestOf_78 : decode cX12_fewestOf 78 = .ok (.iload 6, 2) := by decide +kernel
theorem dX12_fewestOf_80 : decode cX12_fewestOf 80 = .ok (.istore 5, 2) := by decide +kernel
theorem dX12_fewestOf_82 : decode cX12_fewestOf 82 = .ok (.iinc 6 1, 3) := by decide +kernel
theorem dX12_fewestOf_85 : decode cX12_fewestOf 85 = .ok (.goto (-79), 3) := by decide +kernel
theorem dX12_fewestOf_88 : decode cX12_fewestOf 88 = .ok (.iload 5, 2) := by decide +kernel
theorem dX12_fewestOf_90 : decode cX12_fewestOf 90 = .ok (.ireturn, 1) := by decide +kernel
theorem dX12_parted_0 : decode cX12_parted 0 = .ok (.aload_n 0, 1) := by decide +kernel
theorem dX12_parted_1 : decode cX12_parted 1 = .ok (.iload_n 1, 1) := by decide +kernel
theorem dX12_parted_2 : decode cX12_parted 2 = .ok (.iload_n 2, 1) := by decide +kernel
theorem dX12_parted_3 : decode cX12_parted 3 = .ok (.invokevirtual 443, 3) := by decide +kernel
theorem dX12_parted_6 : decode cX12_parted 6 = .ok (.ifCond .eq 17, 3) := by decide +kernel
theorem dX12_parted_9 : decode cX12_parted 9 = .ok (.aload_n 0, 1) := by decide +kernel
theorem dX12_parted_10 : decode cX12_parted 10 = .ok (.aload_n 0, 1) := by decide +kernel
theorem dX12_parted_11 : decode cX12_parted 11 = .ok (.invokevirtual 437, 3) := by decide +kernel
theorem dX12_parted_14 : decode cX12_parted 14 = .ok (.iload_n 1, 1) := by decide +kernel
theorem dX12_parted_15 : decode cX12_parted 15 = .ok (.iload_n 2, 1) := by decide +kernel
theorem dX12_parted_16 : decode cX12_parted 16 = .ok (.iconst 1, 1) := by decide +kernel
theorem dX12_parted_17 : decode cX12_parted 17 = .ok (.invokevirtual 446, 3) := by decide +kernel
theorem dX12_parted_20 : decode cX12_parted 20 = .ok (.goto 4, 3) := by decide +kernel
theorem dX12_parted_23 : decode cX12_parted 23 = .ok (.iconst (-1), 1) := by decide +kernel
theorem dX12_parted_24 : decode cX12_parted 24 = .ok (.ireturn, 1) := by decide +kernel
theorem dX12_joined_0 : decode cX12_joined 0 = .ok (.aload_n 0, 1) := by decide +kernel
theorem dX12_joined_1 : decode cX12_joined 1 = .ok (.iload_n 1, 1) := by decide +kernel
theorem dX12_joined_2 : decode cX12_joined 2 = .ok (.iload_n 2, 1) := by decide +kernel
theorem dX12_joined_3 : decode cX12_joined 3 = .ok (.invokevirtual 443, 3) := by decide +kernel
theorem dX12_joined_6 : decode cX12_joined 6 = .ok (.ifCond .eq 20, 3) := by decide +kernel
theorem dX12_joined_9 : decode cX12_joined 9 = .ok (.aload_n 0, 1) := by decide +kernel
theorem dX12_joined_10 : decode cX12_joined 10 = .ok (.aload_n 0, 1) := by decide +kernel
theorem dX12_joined_11 : decode cX12_joined 11 = .ok (.getfield 70, 3) := by decide +kernel
theorem dX12_joined_14 : decode cX12_joined 14 = .ok (.bipush 31, 2) := by decide +kernel
theorem dX12_joined_16 : decode cX12_joined 16 = .ok (.iaload, 1) := by decide +kernel
theorem dX12_joined_17 : decode cX12_joined 17 = .ok (.iload_n 1, 1) := by decide +kernel
theorem dX12_joined_18 : decode cX12_joined 18 = .ok (.iload_n 2, 1) := by decide +kernel
theorem dX12_joined_19 : decode cX12_joined 19 = .ok (.iconst 0, 1) := by decide +kernel
theorem dX12_joined_20 : decode cX12_joined 20 = .ok (.invokevirtual 446, 3) := by decide +kernel
theorem dX12_joined_23 : decode cX12_joined 23 = .ok (.goto 4, 3) := by decide +kernel
theorem dX12_joined_26 : decode cX12_joined 26 = .ok (.iconst (-1), 1) := by decide +kernel
theorem dX12_joined_27 : decode cX12_joined 27 = .ok (.ireturn, 1) := by decide +kernel
theorem dX12_seen_0 : decode cX12_seen 0 = .ok (.aload_n 0, 1) := by decide +kernel
theorem dX12_seen_1 : decode cX12_seen 1 = .ok (.iload_n 1, 1) := by decide +kernel
theorem dX12_seen_2 : decode cX12_seen 2 = .ok (.invokevirtual 370, 3) := by decide +kernel
theorem dX12_seen_5 : decode cX12_seen 5 = .ok (.ifCond .eq 30, 3) := by decide +kernel
theorem dX12_seen_8 : decode cX12_seen 8 = .ok (.aload_n 0, 1) := by decide +kernel
theorem dX12_seen_9 : decode cX12_seen 9 = .ok (.iload_n 2, 1) := by decide +kernel
theorem dX12_seen_10 : decode cX12_seen 10 = .ok (.invokevirtual 373, 3) := by decide +kernel
theorem dX12_seen_13 : decode cX12_seen 13 = .ok (.ifCond .eq 22, 3) := by decide +kernel
theorem dX12_seen_16 : decode cX12_seen 16 = .ok (.iload_n 3, 1) := by decide +kernel
theorem dX12_seen_17 : decode cX12_seen 17 = .ok (.iconst 1, 1) := by decide +kernel
theorem dX12_seen_18 : decode cX12_seen 18 = .ok (.bipush 9, 2) := by decide +kernel
theorem dX12_seen_20 : decode cX12_seen 20 = .ok (.invokestatic 235, 3) := by decide +kernel
theorem dX12_seen_23 : decode cX12_seen 23 = .ok (.ifCond .eq 12, 3) := by decide +kernel
theorem dX12_seen_26 : decode cX12_seen 26 = .ok (.aload_n 0, 1) := by decide +kernel
theorem dX12_seen_27 : decode cX12_seen 27 = .ok (.getfield 297, 3) := by decide +kernel
theorem dX12_seen_30 : decode cX12_seen 30 = .ok (.bipush 10, 2) := by decide +kernel
theorem dX12_seen_32 : decode cX12_seen 32 = .ok (.if_icmp .ne 5, 3) := by decide +kernel
theorem dX12_seen_35 : decode cX12_seen 35 = .ok (.iconst (-1), 1) := by decide +kernel
theorem dX12_seen_36 : decode cX12_seen 36 = .ok (.ireturn, 1) := by decide +kernel
theorem dX12_seen_37 : decode cX12_seen 37 = .ok (.aload_n 0, 1) := by decide +kernel
theorem dX12_seen_38 : decode cX12_seen 38 = .ok (.getfield 101, 3) := by decide +kernel
theorem dX12_seen_41 : decode cX12_seen 41 = .ok (.aload_n 0, 1) := by decide +kernel
theorem dX12_seen_42 : decode cX12_seen 42 = .ok (.getfield 297, 3) := by decide +kernel
theorem dX12_seen_45 : decode cX12_seen 45 = .ok (.iload_n 1, 1) := by decide +kernel
theorem dX12_seen_46 : decode cX12_seen 46 = .ok (.iastore, 1) := by decide +kernel
theorem dX12_seen_47 : decode cX12_seen 47 = .ok (.aload_n 0, 1) := by decide +kernel
theorem dX12_seen_48 : decode cX12_seen 48 = .ok (.getfield 104, 3) := by decide +kernel
theorem dX12_seen_51 : decode cX12_seen 51 = .ok (.aload_n 0, 1) := by decide +kernel
theorem dX12_seen_52 : decode cX12_seen 52 = .ok (.getfield 297, 3) := by decide +kernel
theorem dX12_seen_55 : decode cX12_seen 55 = .ok (.iload_n 2, 1) := by decide +kernel
theorem dX12_seen_56 : decode cX12_seen 56 = .ok (.iastore, 1) := by decide +kernel
theorem dX12_seen_57 : decode cX12_seen 57 = .ok (.aload_n 0, 1) := by decide +kernel
theorem dX12_seen_58 : decode cX12_seen 58 = .ok (.getfield 107, 3) := by decide +kernel
theorem dX12_seen_61 : decode cX12_seen 61 = .ok (.aload_n 0, 1) := by decide +kernel
theorem dX12_seen_62 : decode cX12_seen 62 = .ok (.getfield 297, 3) := by decide +kernel
theorem dX12_seen_65 : decode cX12_seen 65 = .ok (.iload_n 3, 1) := by decide +kernel
theorem dX12_seen_66 : decode cX12_seen 66 = .ok (.iastore, 1) := by decide +kernel
theorem dX12_seen_67 : decode cX12_seen 67 = .ok (.aload_n 0, 1) := by decide +kernel
theorem dX12_seen_68 : decode cX12_seen 68 = .ok (.getfield 110, 3) := by decide +kernel
theorem dX12_seen_71 : decode cX12_seen 71 = .ok (.aload_n 0, 1) := by decide +kernel
theorem dX12_seen_72 : decode cX12_seen 72 = .ok (.getfield 297, 3) := by decide +kernel
theorem dX12_seen_75 : decode cX12_seen 75 = .ok (.iload 4, 2) := by decide +kernel
theorem dX12_seen_77 : decode cX12_seen 77 = .ok (.bastore, 1) := by decide +kernel
theorem dX12_seen_78 : decode cX12_seen 78 = .ok (.aload_n 0, 1) := by decide +kernel
theorem dX12_seen_79 : decode cX12_seen 79 = .ok (.dup, 1) := by decide +kernel
theorem dX12_seen_80 : decode cX12_seen 80 = .ok (.getfield 297, 3) := by decide +kernel
theorem dX12_seen_83 : decode cX12_seen 83 = .ok (.iconst 1, 1) := by decide +kernel
theorem dX12_seen_84 : decode cX12_seen 84 = .ok (.iadd, 1) := by decide +kernel
theorem dX12_seen_85 : decode cX12_seen 85 = .ok (.putfield 297, 3) := by decide +kernel
theorem dX12_seen_88 : decode cX12_seen 88 = .ok (.aload_n 0, 1) := by decide +kernel
theorem dX12_seen_89 : decode cX12_seen 89 = .ok (.getfield 297, 3) := by decide +kernel
theorem dX12_seen_92 : decode cX12_seen 92 = .ok (.ireturn, 1) := by decide +kernel
theorem dX12_layTrails_0 : decode cX12_layTrails 0 = .ok (.aload_n 0, 1) := by decide +kernel
theorem dX12_layTrails_1 : decode cX12_layTrails 1 = .ok (.invokevirtual 431, 3) := by decide +kernel
theorem dX12_layTrails_4 : decode cX12_layTrails 4 = .ok (.iconst 0, 1) := by decide +kernel
theorem dX12_layTrails_5 : decode cX12_layTrails 5 = .ok (.istore_n 2, 1) := by decide +kernel
theorem dX12_layTrails_6 : decode cX12_layTrails 6 = .ok (.iload_n 2, 1) := by decide +kernel
theorem dX12_layTrails_7 : decode cX12_layTrails 7 = .ok (.aload_n 0, 1) := by decide +kernel
theorem dX12_layTrails_8 : decode cX12_layTrails 8 = .ok (.getfield 313, 3) := by decide +kernel
theorem dX12_layTrails_11 : decode cX12_layTrails 11 = .ok (.if_icmp .ge 70, 3) := by decide +kernel
theorem dX12_layTrails_14 : decode cX12_layTrails 14 = .ok (.aload_n 0, 1) := by decide +kernel
theorem dX12_layTrails_15 : decode cX12_layTrails 15 = .ok (.invokevirtual 294, 3) := by decide +kernel
theorem dX12_layTrails_18 : decode cX12_layTrails 18 = .ok (.aload_n 0, 1) := by decide +kernel
theorem dX12_layTrails_19 : decode cX12_layTrails 19 = .ok (.iload_n 1, 1) := by decide +kernel
theorem dX12_layTrails_20 : decode cX12_layTrails 20 = .ok (.iload_n 2, 1) := by decide +kernel
theorem dX12_layTrails_21 : decode cX12_layTrails 21 = .ok (.invokevirtual 394, 3) := by decide +kernel
theorem dX12_layTrails_24 : decode cX12_layTrails 24 = .ok (.iconst 0, 1) := by decide +kernel
theorem dX12_layTrails_25 : decode cX12_layTrails 25 = .ok (.istore_n 3, 1) := by decide +kernel
theorem dX12_layTrails_26 : decode cX12_layTrails 26 = .ok (.iload_n 3, 1) := by decide +kernel
theorem dX12_layTrails_27 : decode cX12_layTrails 27 = .ok (.bipush 9, 2) := by decide +kernel
theorem dX12_layTrails_29 : decode cX12_layTrails 29 = .ok (.if_icmp .gt 46, 3) := by decide +kernel
theorem dX12_layTrails_32 : decode cX12_layTrails 32 = .ok (.aload_n 0, 1) := by decide +kernel
theorem dX12_layTrails_33 : decode cX12_layTrails 33 = .ok (.iload_n 2, 1) := by decide +kernel
theorem dX12_layTrails_34 : decode cX12_layTrails 34 = .ok (.aload_n 0, 1) := by decide +kernel
theorem dX12_layTrails_35 : decode cX12_layTrails 35 = .ok (.getfield 61, 3) := by decide +kernel
theorem dX12_layTrails_38 : decode cX12_layTrails 38 = .ok (.iload_n 1, 1) := by decide +kernel
theorem dX12_layTrails_39 : decode cX12_layTrails 39 = .ok (.iaload, 1) := by decide +kernel
theorem dX12_layTrails_40 : decode cX12_layTrails 40 = .ok (.invokevirtual 391, 3) := by decide +kernel
theorem dX12_layTrails_43 : decode cX12_layTrails 43 = .ok (.ifCond .eq 32, 3) := by decide +kernel
theorem dX12_layTrails_46 : decode cX12_layTrails 46 = .ok (.aload_n 0, 1) := by decide +kernel
theorem dX12_layTrails_47 : decode cX12_layTrails 47 = .ok (.getfield 114, 3) := by decide +kernel
theorem dX12_layTrails_50 : decode cX12_layTrails 50 = .ok (.bipush 10, 2) := by decide +kernel
theorem dX12_layTrails_52 : decode cX12_layTrails 52 = .ok (.iload_n 2, 1) := by decide +kernel
theorem dX12_layTrails_53 : decode cX12_layTrails 53 = .ok (.imul, 1) := by decide +kernel
theorem dX12_layTrails_54 : decode cX12_layTrails 54 = .ok (.iload_n 3, 1) := by decide +kernel
theorem dX12_layTrails_55 : decode cX12_layTrails 55 = .ok (.iadd, 1) := by decide +kernel
theorem dX12_layTrails_56 : decode cX12_layTrails 56 = .ok (.aload_n 0, 1) := by decide +kernel
theorem dX12_layTrails_57 : decode cX12_layTrails 57 = .ok (.getfield 70, 3) := by decide +kernel
theorem dX12_layTrails_60 : decode cX12_layTrails 60 = .ok (.iconst 0, 1) := by decide +kernel
theorem dX12_layTrails_61 : decode cX12_layTrails 61 = .ok (.iload_n 1, 1) := by decide +kernel
theorem dX12_layTrails_62 : decode cX12_layTrails 62 = .ok (.iadd, 1) := by decide +kernel
theorem dX12_layTrails_63 : decode cX12_layTrails 63 = .ok (.iaload, 1) := by decide +kernel
theorem dX12_layTrails_64 : decode cX12_layTrails 64 = .ok (.iastore, 1) := by decide +kernel
theorem dX12_layTrails_65 : decode cX12_layTrails 65 = .ok (.aload_n 0, 1) := by decide +kernel
theorem dX12_layTrails_66 : decode cX12_layTrails 66 = .ok (.invokevirtual 361, 3) := by decide +kernel
theorem dX12_layTrails_69 : decode cX12_layTrails 69 = .ok (.iinc 3 1, 3) := by decide +kernel
theorem dX12_layTrails_72 : decode cX12_layTrails 72 = .ok (.goto (-46), 3) := by decide +kernel
theorem dX12_layTrails_75 : decode cX12_layTrails 75 = .ok (.iinc 2 1, 3) := by decide +kernel
theorem dX12_layTrails_78 : decode cX12_layTrails 78 = .ok (.goto (-72), 3) := by decide +kernel
theorem dX12_layTrails_81 : decode cX12_layTrails 81 = .ok (.aload_n 0, 1) := by decide +kernel
theorem dX12_layTrails_82 : decode cX12_layTrails 82 = .ok (.invokevirtual 434, 3) := by decide +kernel
theorem dX12_layTrails_85 : decode cX12_layTrails 85 = .ok (.return_, 1) := by decide +kernel
theorem dX12_isFit_0 : decode cX12_isFit 0 = .ok (.aload_n 0, 1) := by decide +kernel
theorem dX12_isFit_1 : decode cX12_isFit 1 = .ok (.iload_n 2, 1) := by decide +kernel
theorem dX12_isFit_2 : decode cX12_isFit 2 = .ok (.aload_n 0, 1) := by decide +kernel
theorem dX12_isFit_3 : decode cX12_isFit 3 = .ok (.getfield 61, 3) := by decide +kernel
theorem dX12_isFit_6 : decode cX12_isFit 6 = .ok (.iload_n 1, 1) := by decide +kernel
theorem dX12_isFit_7 : decode cX12_isFit 7 = .ok (.iaload, 1) := by decide +kernel
theorem dX12_isFit_8 : decode cX12_isFit 8 = .ok (.invokevirtual 391, 3) := by decide +kernel
theorem dX12_isFit_11 : decode cX12_isFit 11 = .ok (.istore_n 3, 1) := by decide +kernel
theorem dX12_isFit_12 : decode cX12_isFit 12 = .ok (.iconst 0, 1) := by decide +kernel
theorem dX12_isFit_13 : decode cX12_isFit 13 = .ok (.istore 4, 2) := by decide +kernel
theorem dX12_isFit_15 : decode cX12_isFit 15 = .ok (.iload 4, 2) := by decide +kernel
theorem dX12_isFit_17 : decode cX12_isFit 17 = .ok (.aload_n 0, 1) := by decide +kernel
theorem dX12_isFit_18 : decode cX12_isFit 18 = .ok (.getfield 297, 3) := by decide +kernel
theorem dX12_isFit_21 : decode cX12_isFit 21 = .ok (.if_icmp .ge 72, 3) := by decide +kernel
theorem dX12_isFit_24 : decode cX12_isFit 24 = .ok (.iload_n 3, 1) := by decide +kernel
theorem dX12_isFit_25 : decode cX12_isFit 25 = .ok (.ifCond .eq 68, 3) := by decide +kernel
theorem dX12_isFit_28 : decode cX12_isFit 28 = .ok (.aload_n 0, 1) := by decide +kernel
theorem dX12_isFit_29 : decode cX12_isFit 29 = .ok (.getfield 101, 3) := by decide +kernel
theorem dX12_isFit_32 : decode cX12_isFit 32 = .ok (.iload 4, 2) := by decide +kernel
theorem dX12_isFit_34 : decode cX12_isFit 34 = .ok (.iaload, 1) := by decide +kernel
theorem dX12_isFit_35 : decode cX12_isFit 35 = .ok (.iload_n 1, 1) := by decide +kernel
theorem dX12_isFit_36 : decode cX12_isFit 36 = .ok (.if_icmp .ne 45, 3) := by decide +kernel
theorem dX12_isFit_39 : decode cX12_isFit 39 = .ok (.aload_n 0, 1) := by decide +kernel
theorem dX12_isFit_40 : decode cX12_isFit 40 = .ok (.getfield 114, 3) := by decide +kernel
theorem dX12_isFit_43 : decode cX12_isFit 43 = .ok (.bipush 10, 2) := by decide +kernel
theorem dX12_isFit_45 : decode cX12_isFit 45 = .ok (.iload_n 2, 1) := by decide +kernel
theorem dX12_isFit_46 : decode cX12_isFit 46 = .ok (.imul, 1) := by decide +kernel
theorem dX12_isFit_47 : decode cX12_isFit 47 = .ok (.aload_n 0, 1) := by decide +kernel
theorem dX12_isFit_48 : decode cX12_isFit 48 = .ok (.getfield 107, 3) := by decide +kernel
theorem dX12_isFit_51 : decode cX12_isFit 51 = .ok (.iload 4, 2) := by decide +kernel
theorem dX12_isFit_53 : decode cX12_isFit 53 = .ok (.iaload, 1) := by decide +kernel
theorem dX12_isFit_54 : decode cX12_isFit 54 = .ok (.iadd, 1) := by decide +kernel
theorem dX12_isFit_55 : decode cX12_isFit 55 = .ok (.iaload, 1) := by decide +kernel
theorem dX12_isFit_56 : decode cX12_isFit 56 = .ok (.aload_n 0, 1) := by decide +kernel
theorem dX12_isFit_57 : decode cX12_isFit 57 = .ok (.getfield 104, 3) := by decide +kernel
theorem dX12_isFit_60 : decode cX12_isFit 60 = .ok (.iload 4, 2) := by decide +kernel
theorem dX12_isFit_62 : decode cX12_isFit 62 = .ok (.iaload, 1) := by decide +kernel
theorem dX12_isFit_63 : decode cX12_isFit 63 = .ok (.if_icmp .ne 7, 3) := by decide +kernel
theorem dX12_isFit_66 : decode cX12_isFit 66 = .ok (.iconst 1, 1) := by decide +kernel
theorem dX12_isFit_67 : decode cX12_isFit 67 = .ok (.goto 4, 3) := by decide +kernel
theorem dX12_isFit_70 : decode cX12_isFit 70 = .ok (.iconst 0, 1) := by decide +kernel
theorem dX12_isFit_71 : decode cX12_isFit 71 = .ok (.aload_n 0, 1) := by decide +kernel
theorem dX12_isFit_72 : decode cX12_isFit 72 = .ok (.getfield 110, 3) := by decide +kernel
theorem dX12_isFit_75 : decode cX12_isFit 75 = .ok (.iload 4, 2) := by decide +kernel
theorem dX12_isFit_77 : decode cX12_isFit 77 = .ok (.baload, 1) := by decide +kernel
theorem dX12_isFit_78 : decode cX12_isFit 78 = .ok (.if_icmp .ne 7, 3) := by decide +kernel
theorem dX12_isFit_81 : decode cX12_isFit 81 = .ok (.iconst 1, 1) := by decide +kernel
theorem dX12_isFit_82 : decode cX12_isFit 82 = .ok (.goto 4, 3) := by decide +kernel
theorem dX12_isFit_85 : decode cX12_isFit 85 = .ok (.iconst 0, 1) := by decide +kernel
theorem dX12_isFit_86 : decode cX12_isFit 86 = .ok (.istore_n 3, 1) := by decide +kernel
theorem dX12_isFit_87 : decode cX12_isFit 87 = .ok (.iinc 4 1, 3) := by decide +kernel
theorem dX12_isFit_90 : decode cX12_isFit 90 = .ok (.goto (-75), 3) := by decide +kernel
theorem dX12_isFit_93 : decode cX12_isFit 93 = .ok (.iload_n 3, 1) := by decide +kernel
theorem dX12_isFit_94 : decode cX12_isFit 94 = .ok (.ireturn, 1) := by decide +kernel
theorem dX12_fitsOf_0 : decode cX12_fitsOf 0 = .ok (.aload_n 0, 1) := by decide +kernel
theorem dX12_fitsOf_1 : decode cX12_fitsOf 1 = .ok (.iload_n 1, 1) := by decide +kernel
theorem dX12_fitsOf_2 : decode cX12_fitsOf 2 = .ok (.invokevirtual 450, 3) := by decide +kernel
theorem dX12_fitsOf_5 : decode cX12_fitsOf 5 = .ok (.iconst 0, 1) := by decide +kernel
theorem dX12_fitsOf_6 : decode cX12_fitsOf 6 = .ok (.istore_n 2, 1) := by decide +kernel
theorem dX12_fitsOf_7 : decode cX12_fitsOf 7 = .ok (.iconst 0, 1) := by decide +kernel
theorem dX12_fitsOf_8 : decode cX12_fitsOf 8 = .ok (.istore_n 3, 1) := by decide +kernel
theorem dX12_fitsOf_9 : decode cX12_fitsOf 9 = .ok (.iload_n 3, 1) := by decide +kernel
theorem dX12_fitsOf_10 : decode cX12_fitsOf 10 = .ok (.aload_n 0, 1) := by decide +kernel
theorem dX12_fitsOf_11 : decode cX12_fitsOf 11 = .ok (.getfield 313, 3) := by decide +kernel
theorem dX12_fitsOf_14 : decode cX12_fitsOf 14 = .ok (.if_icmp .ge 28, 3) := by decide +kernel
theorem dX12_fitsOf_17 : decode cX12_fitsOf 17 = .ok (.iload_n 2, 1) := by decide +kernel
theorem dX12_fitsOf_18 : decode cX12_fitsOf 18 = .ok (.aload_n 0, 1) := by decide +kernel
theorem dX12_fitsOf_19 : decode cX12_fitsOf 19 = .ok (.iload_n 1, 1) := by decide +kernel
theorem dX12_fitsOf_20 : decode cX12_fitsOf 20 = .ok (.iload_n 3, 1) := by decide +kernel
theorem dX12_fitsOf_21 : decode cX12_fitsOf 21 = .ok (.invokevirtual 453, 3) := by decide +kernel
theorem dX12_fitsOf_24 : decode cX12_fitsOf 24 = .ok (.ifCond .eq 9, 3) := by decide +kernel
theorem dX12_fitsOf_27 : decode cX12_fitsOf 27 = .ok (.iconst 1, 1) := by decide +kernel
theorem dX12_fitsOf_28 : decode cX12_fitsOf 28 = .ok (.iload_n 3, 1) := by decide +kernel
theorem dX12_fitsOf_29 : decode cX12_fitsOf 29 = .ok (.ishl, 1) := by decide +kernel
theorem dX12_fitsOf_30 : decode cX12_fitsOf 30 = .ok (.goto 4, 3) := by decide +kernel
theorem dX12_fitsOf_33 : decode cX12_fitsOf 33 = .ok (.iconst 0, 1) := by decide +kernel
theorem dX12_fitsOf_34 : decode cX12_fitsOf 34 = .ok (.ior, 1) := by decide +kernel
theorem dX12_fitsOf_35 : decode cX12_fitsOf 35 = .ok (.istore_n 2, 1) := by decide +kernel
theorem dX12_fitsOf_36 : decode cX12_fitsOf 36 = .ok (.iinc 3 1, 3) := by decide +kernel
theorem dX12_fitsOf_39 : decode cX12_fitsOf 39 = .ok (.goto (-30), 3) := by decide +kernel
theorem dX12_fitsOf_42 : decode cX12_fitsOf 42 = .ok (.iload_n 2, 1) := by decide +kernel
theorem dX12_fitsOf_43 : decode cX12_fitsOf 43 = .ok (.ireturn, 1) := by decide +kernel
theorem dX12_fits_0 : decode cX12_fits 0 = .ok (.aload_n 0, 1) := by decide +kernel
theorem dX12_fits_1 : decode cX12_fits 1 = .ok (.iload_n 1, 1) := by decide +kernel
theorem dX12_fits_2 : decode cX12_fits 2 = .ok (.invokevirtual 370, 3) := by decide +kernel
theorem dX12_fits_5 : decode cX12_fits 5 = .ok (.ifCond .eq 11, 3) := by decide +kernel
theorem dX12_fits_8 : decode cX12_fits 8 = .ok (.aload_n 0, 1) := by decide +kernel
theorem dX12_fits_9 : decode cX12_fits 9 = .ok (.iload_n 1, 1) := by decide +kernel
theorem dX12_fits_10 : decode cX12_fits 10 = .ok (.invokevirtual 456, 3) := by decide +kernel
theorem dX12_fits_13 : decode cX12_fits 13 = .ok (.goto 4, 3) := by decide +kernel
theorem dX12_fits_16 : decode cX12_fits 16 = .ok (.iconst (-1), 1) := by decide +kernel
theorem dX12_fits_17 : decode cX12_fits 17 = .ok (.ireturn, 1) := by decide +kernel
theorem dX12_mostAlike_0 : decode cX12_mostAlike 0 = .ok (.iconst 0, 1) := by decide +kernel
theorem dX12_mostAlike_1 : decode cX12_mostAlike 1 = .ok (.istore_n 3, 1) := by decide +kernel
theorem dX12_mostAlike_2 : decode cX12_mostAlike 2 = .ok (.iconst 0, 1) := by decide +kernel
theorem dX12_mostAlike_3 : decode cX12_mostAlike 3 = .ok (.istore 4, 2) := by decide +kernel
theorem dX12_mostAlike_5 : decode cX12_mostAlike 5 = .ok (.iload 4, 2) := by decide +kernel
theorem dX12_mostAlike_7 : decode cX12_mostAlike 7 = .ok (.aload_n 0, 1) := by decide +kernel
theorem dX12_mostAlike_8 : decode cX12_mostAlike 8 = .ok (.getfield 288, 3) := by decide +kernel
theorem dX12_mostAlike_11 : decode cX12_mostAlike 11 = .ok (.if_icmp .ge 73, 3) := by decide +kernel
theorem dX12_mostAlike_14 : decode cX12_mostAlike 14 = .ok (.iconst 0, 1) := by decide +kernel
theorem dX12_mostAlike_15 : decode cX12_mostAlike 15 = .ok (.istore 5, 2) := by decide +kernel
theorem dX12_mostAlike_17 : decode cX12_mostAlike 17 = .ok (.iconst 0, 1) := by decide +kernel
theorem dX12_mostAlike_18 : decode cX12_mostAlike 18 = .ok (.istore 6, 2) := by decide +kernel
theorem dX12_mostAlike_20 : decode cX12_mostAlike 20 = .ok (.iload 6, 2) := by decide +kernel
theorem dX12_mostAlike_22 : decode cX12_mostAlike 22 = .ok (.aload_n 0, 1) := by decide +kernel
theorem dX12_mostAlike_23 : decode cX12_mostAlike 23 = .ok (.getfield 313, 3) := by decide +kernel
theorem dX12_mostAlike_26 : decode cX12_mostAlike 26 = .ok (.if_icmp .ge 45, 3) := by decide +kernel
theorem dX12_mostAlike_29 : decode cX12_mostAlike 29 = .ok (.iload 5, 2) := by decide +kernel
theorem dX12_mostAlike_31 : decode cX12_mostAlike 31 = .ok (.iload_n 1, 1) := by decide +kernel
theorem dX12_mostAlike_32 : decode cX12_mostAlike 32 = .ok (.iload 6, 2) := by decide +kernel
theorem dX12_mostAlike_34 : decode cX12_mostAlike 34 = .ok (.invokestatic 246, 3) := by decide +kernel
theorem dX12_mostAlike_37 : decode cX12_mostAlike 37 = .ok (.ifCond .eq 24, 3) := by decide +kernel
theorem dX12_mostAlike_40 : decode cX12_mostAlike 40 = .ok (.aload_n 0, 1) := by decide +kernel
theorem dX12_mostAlike_41 : decode cX12_mostAlike 41 = .ok (.getfield 114, 3) := by decide +kernel
theorem dX12_mostAlike_44 : decode cX12_mostAlike 44 = .ok (.bipush 10, 2) := by decide +kernel
theorem dX12_mostAlike_46 : decode cX12_mostAlike 46 = .ok (.iload 6, 2) := by decide +kernel
theorem dX12_mostAlike_48 : decode cX12_mostAlike 48 = .ok (.imul, 1) := by decide +kernel
theorem dX12_mostAlike_49 : decode cX12_mostAlike 49 = .ok (.iload_n 2, 1) := by decide +kernel
theorem dX12_mostAlike_50 : decode cX12_mostAlike 50 = .ok (.iadd, 1) := by decide +kernel
theorem dX12_mostAlike_51 : decode cX12_mostAlike 51 = .ok (.iaload, 1) := by decide +kernel
theorem dX12_mostAlike_52 : decode cX12_mostAlike 52 = .ok (.iload 4, 2) := by decide +kernel
theorem dX12_mostAlike_54 : decode cX12_mostAlike 54 = .ok (.if_icmp .ne 7, 3) := by decide +kernel
theorem dX12_mostAlike_57 : decode cX12_mostAlike 57 = .ok (.iconst 1, 1) := by decide +kernel
theorem dX12_mostAlike_58 : decode cX12_mostAlike 58 = .ok (.goto 4, 3) := by decide +kernel
theorem dX12_mostAlike_61 : decode cX12_mostAlike 61 = .ok (.iconst 0, 1) := by decide +kernel
theorem dX12_mostAlike_62 : decode cX12_mostAlike 62 = .ok (.iadd, 1) := by decide +kernel
theorem dX12_mostAlike_63 : decode cX12_mostAlike 63 = .ok (.istore 5, 2) := by decide +kernel
theorem dX12_mostAlike_65 : decode cX12_mostAlike 65 = .ok (.iinc 6 1, 3) := by decide +kernel
theorem dX12_mostAlike_68 : decode cX12_mostAlike 68 = .ok (.goto (-48), 3) := by decide +kernel
theorem dX12_mostAlike_71 : decode cX12_mostAlike 71 = .ok (.iload_n 3, 1) := by decide +kernel
theorem dX12_mostAlike_72 : decode cX12_mostAlike 72 = .ok (.iload 5, 2) := by decide +kernel
theorem dX12_mostAlike_74 : decode cX12_mostAlike 74 = .ok (.invokestatic 329, 3) := by decide +kernel
theorem dX12_mostAlike_77 : decode cX12_mostAlike 77 = .ok (.istore_n 3, 1) := by decide +kernel
theorem dX12_mostAlike_78 : decode cX12_mostAlike 78 = .ok (.iinc 4 1, 3) := by decide +kernel
theorem dX12_mostAlike_81 : decode cX12_mostAlike 81 = .ok (.goto (-76), 3) := by decide +kernel
theorem dX12_mostAlike_84 : decode cX12_mostAlike 84 = .ok (.iload_n 3, 1) := by decide +kernel
theorem dX12_mostAlike_85 : decode cX12_mostAlike 85 = .ok (.ireturn, 1) := by decide +kernel
theorem dX12_ask_0 : decode cX12_ask 0 = .ok (.aload_n 0, 1) := by decide +kernel
theorem dX12_ask_1 : decode cX12_ask 1 = .ok (.iload_n 1, 1) := by decide +kernel
theorem dX12_ask_2 : decode cX12_ask 2 = .ok (.invokevirtual 370, 3) := by decide +kernel
theorem dX12_ask_5 : decode cX12_ask 5 = .ok (.ifCond .ne 5, 3) := by decide +kernel
theorem dX12_ask_8 : decode cX12_ask 8 = .ok (.iconst (-1), 1) := by decide +kernel
theorem dX12_ask_9 : decode cX12_ask 9 = .ok (.ireturn, 1) := by decide +kernel
theorem dX12_ask_10 : decode cX12_ask 10 = .ok (.aload_n 0, 1) := by decide +kernel
theorem dX12_ask_11 : decode cX12_ask 11 = .ok (.iload_n 1, 1) := by decide +kernel
theorem dX12_ask_12 : decode cX12_ask 12 = .ok (.invokevirtual 456, 3) := by decide +kernel
theorem dX12_ask_15 : decode cX12_ask 15 = .ok (.istore_n 2, 1) := by decide +kernel
theorem dX12_ask_16 : decode cX12_ask 16 = .ok (.iconst (-1), 1) := by decide +kernel
theorem dX12_ask_17 : decode cX12_ask 17 = .ok (.istore_n 3, 1) := by decide +kernel
theorem dX12_ask_18 : decode cX12_ask 18 = .ok (.iconst 0, 1) := by decide +kernel
theorem dX12_ask_19 : decode cX12_ask 19 = .ok (.istore 4, 2) := by decide +kernel
theorem dX12_ask_21 : decode cX12_ask 21 = .ok (.iconst 1, 1) := by decide +kernel
theorem dX12_ask_22 : decode cX12_ask 22 = .ok (.istore 5, 2) := by decide +kernel
theorem dX12_ask_24 : decode cX12_ask 24 = .ok (.iload 5, 2) := by decide +kernel
theorem dX12_ask_26 : decode cX12_ask 26 = .ok (.bipush 9, 2) := by decide +kernel
theorem dX12_ask_28 : decode cX12_ask 28 = .ok (.if_icmp .gt 41, 3) := by decide +kernel
theorem dX12_ask_31 : decode cX12_ask 31 = .ok (.iload_n 2, 1) := by decide +kernel
theorem dX12_ask_32 : decode cX12_ask 32 = .ok (.ifCond .eq 37, 3) := by decide +kernel
theorem dX12_ask_35 : decode cX12_ask 35 = .ok (.aload_n 0, 1) := by decide +kernel
theorem dX12_ask_36 : decode cX12_ask 36 = .ok (.iload_n 2, 1) := by decide +kernel
theorem dX12_ask_37 : decode cX12_ask 37 = .ok (.iload 5, 2) := by decide +kernel
theorem dX12_ask_39 : decode cX12_ask 39 = .ok (.invokevirtual 459, 3) := by decide +kernel
theorem dX12_ask_42 : decode cX12_ask 42 = .ok (.istore 6, 2) := by decide +kernel
theorem dX12_ask_44 : decode cX12_ask 44 = .ok (.iload_n 3, 1) := by decide +kernel
theorem dX12_ask_45 : decode cX12_ask 45 = .ok (.iconst (-1), 1) := by decide +kernel
theorem dX12_ask_46 : decode cX12_ask 46 = .ok (.if_icmp .eq 10, 3) := by decide +kernel
theorem dX12_ask_49 : decode cX12_ask 49 = .ok (.iload 6, 2) := by decide +kernel
theorem dX12_ask_51 : decode cX12_ask 51 = .ok (.iload 4, 2) := by decide +kernel
theorem dX12_ask_53 : decode cX12_ask 53 = .ok (.if_icmp .ge 10, 3) := by decide +kernel
theorem dX12_ask_56 : decode cX12_ask 56 = .ok (.iload 5, 2) := by decide +kernel
theorem dX12_ask_58 : decode cX12_ask 58 = .ok (.istore_n 3, 1) := by decide +kernel
theorem dX12_ask_59 : decode cX12_ask 59 = .ok (.iload 6, 2) := by decide +kernel
theorem dX12_ask_61 : decode cX12_ask 61 = .ok (.istore 4, 2) := by decide +kernel
theorem dX12_ask_63 : decode cX12_ask 63 = .ok (.iinc 5 1, 3) := by decide +kernel
theorem dX12_ask_66 : decode cX12_ask 66 = .ok (.goto (-42), 3) := by decide +kernel
theorem dX12_ask_69 : decode cX12_ask 69 = .ok (.iload_n 3, 1) := by decide +kernel
theorem dX12_ask_70 : decode cX12_ask 70 = .ok (.ireturn, 1) := by decide +kernel
theorem dX12_tryTour_0 : decode cX12_tryTour 0 = .ok (.aload_n 0, 1) := by decide +kernel
theorem dX12_tryTour_1 : decode cX12_tryTour 1 = .ok (.getfield 418, 3) := by decide +kernel
theorem dX12_tryTour_4 : decode cX12_tryTour 4 = .ok (.iconst (-1), 1) := by decide +kernel
theorem dX12_tryTour_5 : decode cX12_tryTour 5 = .ok (.if_icmp .eq 13, 3) := by decide +kernel
theorem dX12_tryTour_8 : decode cX12_tryTour 8 = .ok (.iload 5, 2) := by decide +kernel
theorem dX12_tryTour_10 : decode cX12_tryTour 10 = .ok (.aload_n 0, 1) := by decide +kernel
theorem dX12_tryTour_11 : decode cX12_tryTour 11 = .ok (.getfield 462, 3) := by decide +kernel
theorem dX12_tryTour_14 : decode cX12_tryTour 14 = .ok (.if_icmp .le 4, 3) := by decide +kernel
theorem dX12_tryTour_17 : decode cX12_tryTour 17 = .ok (.return_, 1) := by decide +kernel
theorem dX12_tryTour_18 : decode cX12_tryTour 18 = .ok (.iload_n 3, 1) := by decide +kernel
theorem dX12_tryTour_19 : decode cX12_tryTour 19 = .ok (.ifCond .ne 62, 3) := by decide +kernel
theorem dX12_tryTour_22 : decode cX12_tryTour 22 = .ok (.iload 5, 2) := by decide +kernel
theorem dX12_tryTour_24 : decode cX12_tryTour 24 = .ok (.aload_n 0, 1) := by decide +kernel
theorem dX12_tryTour_25 : decode cX12_tryTour 25 = .ok (.iload_n 2, 1) := by decide +kernel
theorem dX12_tryTour_26 : decode cX12_tryTour 26 = .ok (.iload_n 1, 1) := by decide +kernel
theorem dX12_tryTour_27 : decode cX12_tryTour 27 = .ok (.invokevirtual 415, 3) := by decide +kernel
theorem dX12_tryTour_30 : decode cX12_tryTour 30 = .ok (.iadd, 1) := by decide +kernel
theorem dX12_tryTour_31 : decode cX12_tryTour 31 = .ok (.istore 6, 2) := by decide +kernel
theorem dX12_tryTour_33 : decode cX12_tryTour 33 = .ok (.aload_n 0, 1) := by decide +kernel
theorem dX12_tryTour_34 : decode cX12_tryTour 34 = .ok (.getfield 418, 3) := by decide +kernel
theorem dX12_tryTour_37 : decode cX12_tryTour 37 = .ok (.iconst (-1), 1) := by decide +kernel
theorem dX12_tryTour_38 : decode cX12_tryTour 38 = .ok (.if_icmp .eq 30, 3) := by decide +kernel
theorem dX12_tryTour_41 : decode cX12_tryTour 41 = .ok (.iload 6, 2) := by decide +kernel
theorem dX12_tryTour_43 : decode cX12_tryTour 43 = .ok (.aload_n 0, 1) := by decide +kernel
theorem dX12_tryTour_44 : decode cX12_tryTour 44 = .ok (.getfield 462, 3) := by decide +kernel
theorem dX12_tryTour_47 : decode cX12_tryTour 47 = .ok (.if_icmp .lt 21, 3) := by decide +kernel
theorem dX12_tryTour_50 : decode cX12_tryTour 50 = .ok (.iload 6, 2) := by decide +kernel
theorem dX12_tryTour_52 : decode cX12_tryTour 52 = .ok (.aload_n 0, 1) := by decide +kernel
theorem dX12_tryTour_53 : decode cX12_tryTour 53 = .ok (.getfield 462, 3) := by decide +kernel
theorem dX12_tryTour_56 : decode cX12_tryTour 56 = .ok (.if_icmp .ne 24, 3) := by decide +kernel
theorem dX12_tryTour_59 : decode cX12_tryTour 59 = .ok (.iload 4, 2) := by decide +kernel
theorem dX12_tryTour_61 : decode cX12_tryTour 61 = .ok (.aload_n 0, 1) := by decide +kernel
theorem dX12_tryTour_62 : decode cX12_tryTour 62 = .ok (.getfield 418, 3) := by decide +kernel
theorem dX12_tryTour_65 : decode cX12_tryTour 65 = .ok (.if_icmp .ge 15, 3) := by decide +kernel
theorem dX12_tryTour_68 : decode cX12_tryTour 68 = .ok (.aload_n 0, 1) := by decide +kernel
theorem dX12_tryTour_69 : decode cX12_tryTour 69 = .ok (.iload 4, 2) := by decide +kernel
theorem dX12_tryTour_71 : decode cX12_tryTour 71 = .ok (.putfield 418, 3) := by decide +kernel
theorem dX12_tryTour_74 : decode cX12_tryTour 74 = .ok (.aload_n 0, 1) := by decide +kernel
theorem dX12_tryTour_75 : decode cX12_tryTour 75 = .ok (.iload 6, 2) := by decide +kernel
theorem dX12_tryTour_77 : decode cX12_tryTour 77 = .ok (.putfield 462, 3) := by decide +kernel
theorem dX12_tryTour_80 : decode cX12_tryTour 80 = .ok (.return_, 1) := by decide +kernel
theorem dX12_tryTour_81 : decode cX12_tryTour 81 = .ok (.iconst 0, 1) := by decide +kernel
theorem dX12_tryTour_82 : decode cX12_tryTour 82 = .ok (.istore 6, 2) := by decide +kernel
theorem dX12_tryTour_84 : decode cX12_tryTour 84 = .ok (.iload 6, 2) := by decide +kernel
theorem dX12_tryTour_86 : decode cX12_tryTour 86 = .ok (.aload_n 0, 1) := by decide +kernel
theorem dX12_tryTour_87 : decode cX12_tryTour 87 = .ok (.getfield 288, 3) := by decide +kernel
theorem dX12_tryTour_90 : decode cX12_tryTour 90 = .ok (.if_icmp .ge 64, 3) := by decide +kernel
theorem dX12_tryTour_93 : decode cX12_tryTour 93 = .ok (.iload_n 3, 1) := by decide +kernel
theorem dX12_tryTour_94 : decode cX12_tryTour 94 = .ok (.iload 6, 2) := by decide +kernel
theorem dX12_tryTour_96 : decode cX12_tryTour 96 = .ok (.invokestatic 246, 3) := by decide +kernel
theorem dX12_tryTour_99 : decode cX12_tryTour 99 = .ok (.ifCond .eq 49, 3) := by decide +kernel
theorem dX12_tryTour_102 : decode cX12_tryTour 102 = .ok (.aload_n 0, 1) := by decide +kernel
theorem dX12_tryTour_103 : decode cX12_tryTour 103 = .ok (.iload_n 2, 1) := by decide +kernel
theorem dX12_tryTour_104 : decode cX12_tryTour 104 = .ok (.iload 6, 2) := by decide +kernel
theorem dX12_tryTour_106 : decode cX12_tryTour 106 = .ok (.invokevirtual 415, 3) := by decide +kernel
theorem dX12_tryTour_109 : decode cX12_tryTour 109 = .ok (.ldc_w 411, 3) := by decide +kernel
theorem dX12_tryTour_112 : decode cX12_tryTour 112 = .ok (.if_icmp .ge 36, 3) := by decide +kernel
theorem dX12_tryTour_115 : decode cX12_tryTour 115 = .ok (.aload_n 0, 1) := by decide +kernel
theorem dX12_tryTour_116 : decode cX12_tryTour 116 = .ok (.iload_n 1, 1) := by decide +kernel
theorem dX12_tryTour_117 : decode cX12_tryTour 117 = .ok (.iload 6, 2) := by decide +kernel
theorem dX12_tryTour_119 : decode cX12_tryTour 119 = .ok (.iload_n 3, 1) := by decide +kernel
theorem dX12_tryTour_120 : decode cX12_tryTour 120 = .ok (.iconst 1, 1) := by decide +kernel
theorem dX12_tryTour_121 : decode cX12_tryTour 121 = .ok (.iload 6, 2) := by decide +kernel
theorem dX12_tryTour_123 : decode cX12_tryTour 123 = .ok (.ishl, 1) := by decide +kernel
theorem dX12_tryTour_124 : decode cX12_tryTour 124 = .ok (.iconst (-1), 1) := by decide +kernel
theorem dX12_tryTour_125 : decode cX12_tryTour 125 = .ok (.ixor, 1) := by decide +kernel
theorem dX12_tryTour_126 : decode cX12_tryTour 126 = .ok (.iand, 1) := by decide +kernel
theorem dX12_tryTour_127 : decode cX12_tryTour 127 = .ok (.bipush 10, 2) := by decide +kernel
theorem dX12_tryTour_129 : decode cX12_tryTour 129 = .ok (.iload 4, 2) := by decide +kernel
theorem dX12_tryTour_131 : decode cX12_tryTour 131 = .ok (.imul, 1) := by decide +kernel
theorem dX12_tryTour_132 : decode cX12_tryTour 132 = .ok (.iload 6, 2) := by decide +kernel
theorem dX12_tryTour_134 : decode cX12_tryTour 134 = .ok (.iadd, 1) := by decide +kernel
theorem dX12_tryTour_135 : decode cX12_tryTour 135 = .ok (.iload 5, 2) := by decide +kernel
theorem dX12_tryTour_137 : decode cX12_tryTour 137 = .ok (.aload_n 0, 1) := by decide +kernel
theorem dX12_tryTour_138 : decode cX12_tryTour 138 = .ok (.iload_n 2, 1) := by decide +kernel
theorem dX12_tryTour_139 : decode cX12_tryTour 139 = .ok (.iload 6, 2) := by decide +kernel
theorem dX12_tryTour_141 : decode cX12_tryTour 141 = .ok (.invokevirtual 415, 3) := by decide +kernel
theorem dX12_tryTour_144 : decode cX12_tryTour 144 = .ok (.iadd, 1) := by decide +kernel
theorem dX12_tryTour_145 : decode cX12_tryTour 145 = .ok (.invokevirtual 465, 3) := by decide +kernel
theorem dX12_tryTour_148 : decode cX12_tryTour 148 = .ok (.iinc 6 1, 3) := by decide +kernel
theorem dX12_tryTour_151 : decode cX12_tryTour 151 = .ok (.goto (-67), 3) := by decide +kernel
theorem dX12_tryTour_154 : decode cX12_tryTour 154 = .ok (.return_, 1) := by decide +kernel
theorem dX12_areSome_0 : decode cX12_areSome 0 = .ok (.aload_n 0, 1) := by decide +kernel
theorem dX12_areSome_1 : decode cX12_areSome 1 = .ok (.getfield 288, 3) := by decide +kernel
theorem dX12_areSome_4 : decode cX12_areSome 4 = .ok (.ifCond .le 23, 3) := by decide +kernel
theorem dX12_areSome_7 : decode cX12_areSome 7 = .ok (.iload_n 1, 1) := by decide +kernel
theorem dX12_areSome_8 : decode cX12_areSome 8 = .ok (.iconst 1, 1) := by decide +kernel
theorem dX12_areSome_9 : decode cX12_areSome 9 = .ok (.iconst 1, 1) := by decide +kernel
theorem dX12_areSome_10 : decode cX12_areSome 10 = .ok (.aload_n 0, 1) := by decide +kernel
theorem dX12_areSome_11 : decode cX12_areSome 11 = .ok (.getfield 288, 3) := by decide +kernel
theorem dX12_areSome_14 : decode cX12_areSome 14 = .ok (.ishl, 1) := by decide +kernel
theorem dX12_areSome_15 : decode cX12_areSome 15 = .ok (.iconst 1, 1) := by decide +kernel
theorem dX12_areSome_16 : decode cX12_areSome 16 = .ok (.isub, 1) := by decide +kernel
theorem dX12_areSome_17 : decode cX12_areSome 17 = .ok (.invokestatic 235, 3) := by decide +kernel
theorem dX12_areSome_20 : decode cX12_areSome 20 = .ok (.ifCond .eq 7, 3) := by decide +kernel
theorem dX12_areSome_23 : decode cX12_areSome 23 = .ok (.iconst 1, 1) := by decide +kernel
theorem dX12_areSome_24 : decode cX12_areSome 24 = .ok (.goto 4, 3) := by decide +kernel
theorem dX12_areSome_27 : decode cX12_areSome 27 = .ok (.iconst 0, 1) := by decide +kernel
theorem dX12_areSome_28 : decode cX12_areSome 28 = .ok (.ireturn, 1) := by decide +kernel
theorem dX12_tour_0 : decode cX12_tour 0 = .ok (.aload_n 0, 1) := by decide +kernel
theorem dX12_tour_1 : decode cX12_tour 1 = .ok (.iload_n 1, 1) := by decide +kernel
theorem dX12_tour_2 : decode cX12_tour 2 = .ok (.invokevirtual 373, 3) := by decide +kernel
theorem dX12_tour_5 : decode cX12_tour 5 = .ok (.ifCond .eq 20, 3) := by decide +kernel
theorem dX12_tour_8 : decode cX12_tour 8 = .ok (.aload_n 0, 1) := by decide +kernel
theorem dX12_tour_9 : decode cX12_tour 9 = .ok (.iload_n 2, 1) := by decide +kernel
theorem dX12_tour_10 : decode cX12_tour 10 = .ok (.invokevirtual 469, 3) := by decide +kernel
theorem dX12_tour_13 : decode cX12_tour 13 = .ok (.ifCond .eq 12, 3) := by decide +kernel
theorem dX12_tour_16 : decode cX12_tour 16 = .ok (.iload_n 3, 1) := by decide +kernel
theorem dX12_tour_17 : decode cX12_tour 17 = .ok (.iconst 0, 1) := by decide +kernel
theorem dX12_tour_18 : decode cX12_tour 18 = .ok (.iconst 1, 1) := by decide +kernel
theorem dX12_tour_19 : decode cX12_tour 19 = .ok (.invokestatic 235, 3) := by decide +kernel
theorem dX12_tour_22 : decode cX12_tour 22 = .ok (.ifCond .ne 5, 3) := by decide +kernel
theorem dX12_tour_25 : decode cX12_tour 25 = .ok (.iconst (-1), 1) := by decide +kernel
theorem dX12_tour_26 : decode cX12_tour 26 = .ok (.ireturn, 1) := by decide +kernel
theorem dX12_tour_27 : decode cX12_tour 27 = .ok (.aload_n 0, 1) := by decide +kernel
theorem dX12_tour_28 : decode cX12_tour 28 = .ok (.invokevirtual 412, 3) := by decide +kernel
theorem dX12_tour_31 : decode cX12_tour 31 = .ok (.aload_n 0, 1) := by decide +kernel
theorem dX12_tour_32 : decode cX12_tour 32 = .ok (.iconst (-1), 1) := by decide +kernel
theorem dX12_tour_33 : decode cX12_tour 33 = .ok (.putfield 418, 3) := by decide +kernel
theorem dX12_tour_36 : decode cX12_tour 36 = .ok (.aload_n 0, 1) := by decide +kernel
theorem dX12_tour_37 : decode cX12_tour 37 = .ok (.iload_n 1, 1) := by decide +kernel
theorem dX12_tour_38 : decode cX12_tour 38 = .ok (.iload_n 1, 1) := by decide +kernel
theorem dX12_tour_39 : decode cX12_tour 39 = .ok (.iload_n 2, 1) := by decide +kernel
theorem dX12_tour_40 : decode cX12_tour 40 = .ok (.iconst 1, 1) := by decide +kernel
theorem dX12_tour_41 : decode cX12_tour 41 = .ok (.iload_n 1, 1) := by decide +kernel
theorem dX12_tour_42 : decode cX12_tour 42 = .ok (.ishl, 1) := by decide +kernel
theorem dX12_tour_43 : decode cX12_tour 43 = .ok (.iconst (-1), 1) := by decide +kernel
theorem dX12_tour_44 : decode cX12_tour 44 = .ok (.ixor, 1) := by decide +kernel
theorem dX12_tour_45 : decode cX12_tour 45 = .ok (.iand, 1) := by decide +kernel
theorem dX12_tour_46 : decode cX12_tour 46 = .ok (.iload_n 2, 1) := by decide +kernel
theorem dX12_tour_47 : decode cX12_tour 47 = .ok (.iload_n 1, 1) := by decide +kernel
theorem dX12_tour_48 : decode cX12_tour 48 = .ok (.invokestatic 246, 3) := by decide +kernel
theorem dX12_tour_51 : decode cX12_tour 51 = .ok (.ifCond .eq 7, 3) := by decide +kernel
theorem dX12_tour_54 : decode cX12_tour 54 = .ok (.iload_n 1, 1) := by decide +kernel
theorem dX12_tour_55 : decode cX12_tour 55 = .ok (.goto 4, 3) := by decide +kernel
theorem dX12_tour_58 : decode cX12_tour 58 = .ok (.iconst 0, 1) := by decide +kernel
theorem dX12_tour_59 : decode cX12_tour 59 = .ok (.iconst 0, 1) := by decide +kernel
theorem dX12_tour_60 : decode cX12_tour 60 = .ok (.invokevirtual 465, 3) := by decide +kernel
theorem dX12_tour_63 : decode cX12_tour 63 = .ok (.aload_n 0, 1) := by decide +kernel
theorem dX12_tour_64 : decode cX12_tour 64 = .ok (.getfield 418, 3) := by decide +kernel
theorem dX12_tour_67 : decode cX12_tour 67 = .ok (.iconst (-1), 1) := by decide +kernel
theorem dX12_tour_68 : decode cX12_tour 68 = .ok (.if_icmp .eq 8, 3) := by decide +kernel
theorem dX12_tour_71 : decode cX12_tour 71 = .ok (.iload_n 3, 1) := by decide +kernel
theorem dX12_tour_72 : decode cX12_tour 72 = .ok (.iconst 1, 1) := by decide +kernel
theorem dX12_tour_73 : decode cX12_tour 73 = .ok (.if_icmp .ne 10, 3) := by decide +kernel
theorem dX12_tour_76 : decode cX12_tour 76 = .ok (.aload_n 0, 1) := by decide +kernel
theorem dX12_tour_77 : decode cX12_tour 77 = .ok (.getfield 418, 3) := by decide +kernel
theorem dX12_tour_80 : decode cX12_tour 80 = .ok (.goto 7, 3) := by decide +kernel
theorem dX12_tour_83 : decode cX12_tour 83 = .ok (.aload_n 0, 1) := by decide +kernel
theorem dX12_tour_84 : decode cX12_tour 84 = .ok (.getfield 462, 3) := by decide +kernel
theorem dX12_tour_87 : decode cX12_tour 87 = .ok (.ireturn, 1) := by decide +kernel
theorem dX12_tryDoors_0 : decode cX12_tryDoors 0 = .ok (.iload_n 1, 1) := by decide +kernel
theorem dX12_tryDoors_1 : decode cX12_tryDoors 1 = .ok (.aload_n 0, 1) := by decide +kernel
theorem dX12_tryDoors_2 : decode cX12_tryDoors 2 = .ok (.getfield 285, 3) := by decide +kernel
theorem dX12_tryDoors_5 : decode cX12_tryDoors 5 = .ok (.if_icmp .ne 85, 3) := by decide +kernel
theorem dX12_tryDoors_8 : decode cX12_tryDoors 8 = .ok (.aload_n 0, 1) := by decide +kernel
theorem dX12_tryDoors_9 : decode cX12_tryDoors 9 = .ok (.getfield 418, 3) := by decide +kernel
theorem dX12_tryDoors_12 : decode cX12_tryDoors 12 = .ok (.iconst (-1), 1) := by decide +kernel
theorem dX12_tryDoors_13 : decode cX12_tryDoors 13 = .ok (.if_icmp .eq 12, 3) := by decide +kernel
theorem dX12_tryDoors_16 : decode cX12_tryDoors 16 = .ok (.iload 4, 2) := by decide +kernel
theorem dX12_tryDoors_18 : decode cX12_tryDoors 18 = .ok (.aload_n 0, 1) := by decide +kernel
theorem dX12_tryDoors_19 : decode cX12_tryDoors 19 = .ok (.getfield 421, 3) := by decide +kernel
theorem dX12_tryDoors_22 : decode cX12_tryDoors 22 = .ok (.if_icmp .le 7, 3) := by decide +kernel
theorem dX12_tryDoors_25 : decode cX12_tryDoors 25 = .ok (.iconst 1, 1) := by decide +kernel
theorem dX12_tryDoors_26 : decode cX12_tryDoors 26 = .ok (.goto 4, 3) := by decide +kernel
theorem dX12_tryDoors_29 : decode cX12_tryDoors 29 = .ok (.iconst 0, 1) := by decide +kernel
theorem dX12_tryDoors_30 : decode cX12_tryDoors 30 = .ok (.istore 6, 2) := by decide +kernel
theorem dX12_tryDoors_32 : decode cX12_tryDoors 32 = .ok (.iload 6, 2) := by decide +kernel
theorem dX12_tryDoors_34 : decode cX12_tryDoors 34 = .ok (.ifCond .ne 38, 3) := by decide +kernel
theorem dX12_tryDoors_37 : decode cX12_tryDoors 37 = .ok (.iload 4, 2) := by decide +kernel
theorem dX12_tryDoors_39 : decode cX12_tryDoors 39 = .ok (.aload_n 0, 1) := by decide +kernel
theorem dX12_tryDoors_40 : decode cX12_tryDoors 40 = .ok (.getfield 421, 3) := by decide +kernel
theorem dX12_tryDoors_43 : decode cX12_tryDoors 43 = .ok (.if_icmp .ne 46, 3) := by decide +kernel
theorem dX12_tryDoors_46 : decode cX12_tryDoors 46 = .ok (.iload 5, 2) := by decide +kernel
theorem dX12_tryDoors_48 : decode cX12_tryDoors 48 = .ok (.aload_n 0, 1) := by decide +kernel
theorem dX12_tryDoors_49 : decode cX12_tryDoors 49 = .ok (.getfield 462, 3) := by decide +kernel
theorem dX12_tryDoors_52 : decode cX12_tryDoors 52 = .ok (.if_icmp .lt 20, 3) := by decide +kernel
theorem dX12_tryDoors_55 : decode cX12_tryDoors 55 = .ok (.iload 5, 2) := by decide +kernel
theorem dX12_tryDoors_57 : decode cX12_tryDoors 57 = .ok (.aload_n 0, 1) := by decide +kernel
theorem dX12_tryDoors_58 : decode cX12_tryDoors 58 = .ok (.getfield 462, 3) := by decide +kernel
theorem dX12_tryDoors_61 : decode cX12_tryDoors 61 = .ok (.if_icmp .ne 28, 3) := by decide +kernel
theorem dX12_tryDoors_64 : decode cX12_tryDoors 64 = .ok (.iload_n 3, 1) := by decide +kernel
theorem dX12_tryDoors_65 : decode cX12_tryDoors 65 = .ok (.aload_n 0, 1) := by decide +kernel
theorem dX12_tryDoors_66 : decode cX12_tryDoors 66 = .ok (.getfield 418, 3) := by decide +kernel
theorem dX12_tryDoors_69 : decode cX12_tryDoors 69 = .ok (.if_icmp .ge 20, 3) := by decide +kernel
theorem dX12_tryDoors_72 : decode cX12_tryDoors 72 = .ok (.aload_n 0, 1) := by decide +kernel
theorem dX12_tryDoors_73 : decode cX12_tryDoors 73 = .ok (.iload_n 3, 1) := by decide +kernel
theorem dX12_tryDoors_74 : decode cX12_tryDoors 74 = .ok (.putfield 418, 3) := by decide +kernel
theorem dX12_tryDoors_77 : decode cX12_tryDoors 77 = .ok (.aload_n 0, 1) := by decide +kernel
theorem dX12_tryDoors_78 : decode cX12_tryDoors 78 = .ok (.iload 4, 2) := by decide +kernel
theorem dX12_tryDoors_80 : decode cX12_tryDoors 80 = .ok (.putfield 421, 3) := by decide +kernel
theorem dX12_tryDoors_83 : decode cX12_tryDoors 83 = .ok (.aload_n 0, 1) := by decide +kernel
theorem dX12_tryDoors_84 : decode cX12_tryDoors 84 = .ok (.iload 5, 2) := by decide +kernel
theorem dX12_tryDoors_86 : decode cX12_tryDoors 86 = .ok (.putfield 462, 3) := by decide +kernel
theorem dX12_tryDoors_89 : decode cX12_tryDoors 89 = .ok (.return_, 1) := by decide +kernel
theorem dX12_tryDoors_90 : decode cX12_tryDoors 90 = .ok (.iconst 0, 1) := by decide +kernel
theorem dX12_tryDoors_91 : decode cX12_tryDoors 91 = .ok (.istore 6, 2) := by decide +kernel
theorem dX12_tryDoors_93 : decode cX12_tryDoors 93 = .ok (.iload 6, 2) := by decide +kernel
theorem dX12_tryDoors_95 : decode cX12_tryDoors 95 = .ok (.aload_n 0, 1) := by decide +kernel
theorem dX12_tryDoors_96 : decode cX12_tryDoors 96 = .ok (.getfield 288, 3) := by decide +kernel
theorem dX12_tryDoors_99 : decode cX12_tryDoors 99 = .ok (.if_icmp .ge 73, 3) := by decide +kernel
theorem dX12_tryDoors_102 : decode cX12_tryDoors 102 = .ok (.aload_n 0, 1) := by decide +kernel
theorem dX12_tryDoors_103 : decode cX12_tryDoors 103 = .ok (.aload_n 0, 1) := by decide +kernel
theorem dX12_tryDoors_104 : decode cX12_tryDoors 104 = .ok (.getfield 70, 3) := by decide +kernel
theorem dX12_tryDoors_107 : decode cX12_tryDoors 107 = .ok (.iconst 0, 1) := by decide +kernel
theorem dX12_tryDoors_108 : decode cX12_tryDoors 108 = .ok (.iload_n 1, 1) := by decide +kernel
theorem dX12_tryDoors_109 : decode cX12_tryDoors 109 = .ok (.iadd, 1) := by decide +kernel
theorem dX12_tryDoors_110 : decode cX12_tryDoors 110 = .ok (.iaload, 1) := by decide +kernel
theorem dX12_tryDoors_111 : decode cX12_tryDoors 111 = .ok (.iload 6, 2) := by decide +kernel
theorem dX12_tryDoors_113 : decode cX12_tryDoors 113 = .ok (.invokevirtual 415, 3) := by decide +kernel
theorem dX12_tryDoors_116 : decode cX12_tryDoors 116 = .ok (.istore 7, 2) := by decide +kernel
theorem dX12_tryDoors_118 : decode cX12_tryDoors 118 = .ok (.iload_n 2, 1) := by decide +kernel
theorem dX12_tryDoors_119 : decode cX12_tryDoors 119 = .ok (.iload 6, 2) := by decide +kernel
theorem dX12_tryDoors_121 : decode cX12_tryDoors 121 = .ok (.invokestatic 246, 3) := by decide +kernel
theorem dX12_tryDoors_124 : decode cX12_tryDoors 124 = .ok (.ifCond .eq 42, 3) := by decide +kernel
theorem dX12_tryDoors_127 : decode cX12_tryDoors 127 = .ok (.iload 7, 2) := by decide +kernel
theorem dX12_tryDoors_129 : decode cX12_tryDoors 129 = .ok (.ldc_w 411, 3) := by decide +kernel
theorem dX12_tryDoors_132 : decode cX12_tryDoors 132 = .ok (.if_icmp .ge 34, 3) := by decide +kernel
theorem dX12_tryDoors_135 : decode cX12_tryDoors 135 = .ok (.aload_n 0, 1) := by decide +kernel
theorem dX12_tryDoors_136 : decode cX12_tryDoors 136 = .ok (.iload_n 1, 1) := by decide +kernel
theorem dX12_tryDoors_137 : decode cX12_tryDoors 137 = .ok (.iconst 1, 1) := by decide +kernel
theorem dX12_tryDoors_138 : decode cX12_tryDoors 138 = .ok (.iadd, 1) := by decide +kernel
theorem dX12_tryDoors_139 : decode cX12_tryDoors 139 = .ok (.iload_n 2, 1) := by decide +kernel
theorem dX12_tryDoors_140 : decode cX12_tryDoors 140 = .ok (.iconst 1, 1) := by decide +kernel
theorem dX12_tryDoors_141 : decode cX12_tryDoors 141 = .ok (.iload 6, 2) := by decide +kernel
theorem dX12_tryDoors_143 : decode cX12_tryDoors 143 = .ok (.ishl, 1) := by decide +kernel
theorem dX12_tryDoors_144 : decode cX12_tryDoors 144 = .ok (.iconst (-1), 1) := by decide +kernel
theorem dX12_tryDoors_145 : decode cX12_tryDoors 145 = .ok (.ixor, 1) := by decide +kernel
theorem dX12_tryDoors_146 : decode cX12_tryDoors 146 = .ok (.iand, 1) := by decide +kernel
theorem dX12_tryDoors_147 : decode cX12_tryDoors 147 = .ok (.bipush 10, 2) := by decide +kernel
theorem dX12_tryDoors_149 : decode cX12_tryDoors 149 = .ok (.iload_n 3, 1) := by decide +kernel
theorem dX12_tryDoors_150 : decode cX12_tryDoors 150 = .ok (.imul, 1) := by decide +kernel
theorem dX12_tryDoors_151 : decode cX12_tryDoors 151 = .ok (.iload 6, 2) := by decide +kernel
theorem dX12_tryDoors_153 : decode cX12_tryDoors 153 = .ok (.iadd, 1) := by decide +kernel
theorem dX12_tryDoors_154 : decode cX12_tryDoors 154 = .ok (.iload 4, 2) := by decide +kernel
theorem dX12_tryDoors_156 : decode cX12_tryDoors 156 = .ok (.iconst 1, 1) := by decide +kernel
theorem dX12_tryDoors_157 : decode cX12_tryDoors 157 = .ok (.iadd, 1) := by decide +kernel
theorem dX12_tryDoors_158 : decode cX12_tryDoors 158 = .ok (.iload 5, 2) := by decide +kernel
theorem dX12_tryDoors_160 : decode cX12_tryDoors 160 = .ok (.iload 7, 2) := by decide +kernel
theorem dX12_tryDoors_162 : decode cX12_tryDoors 162 = .ok (.iadd, 1) := by decide +kernel
theorem dX12_tryDoors_163 : decode cX12_tryDoors 163 = .ok (.invokevirtual 472, 3) := by decide +kernel
theorem dX12_tryDoors_166 : decode cX12_tryDoors 166 = .ok (.iinc 6 1, 3) := by decide +kernel
theorem dX12_tryDoors_169 : decode cX12_tryDoors 169 = .ok (.goto (-76), 3) := by decide +kernel
theorem dX12_tryDoors_172 : decode cX12_tryDoors 172 = .ok (.aload_n 0, 1) := by decide +kernel
theorem dX12_tryDoors_173 : decode cX12_tryDoors 173 = .ok (.iload_n 1, 1) := by decide +kernel
theorem dX12_tryDoors_174 : decode cX12_tryDoors 174 = .ok (.iconst 1, 1) := by decide +kernel
theorem dX12_tryDoors_175 : decode cX12_tryDoors 175 = .ok (.iadd, 1) := by decide +kernel
theorem dX12_tryDoors_176 : decode cX12_tryDoors 176 = .ok (.iload_n 2, 1) := by decide +kernel
theorem dX12_tryDoors_177 : decode cX12_tryDoors 177 = .ok (.bipush 10, 2) := by decide +kernel
theorem dX12_tryDoors_179 : decode cX12_tryDoors 179 = .ok (.iload_n 3, 1) := by decide +kernel
theorem dX12_tryDoors_180 : decode cX12_tryDoors 180 = .ok (.imul, 1) := by decide +kernel
theorem dX12_tryDoors_181 : decode cX12_tryDoors 181 = .ok (.bipush 9, 2) := by decide +kernel
theorem dX12_tryDoors_183 : decode cX12_tryDoors 183 = .ok (.iadd, 1) := by decide +kernel
theorem dX12_tryDoors_184 : decode cX12_tryDoors 184 = .ok (.iload 4, 2) := by decide +kernel
theorem dX12_tryDoors_186 : decode cX12_tryDoors 186 = .ok (.iload 5, 2) := by decide +kernel
theorem dX12_tryDoors_188 : decode cX12_tryDoors 188 = .ok (.invokevirtual 472, 3) := by decide +kernel
theorem dX12_tryDoors_191 : decode cX12_tryDoors 191 = .ok (.return_, 1) := by decide +kernel
theorem dX12_doors_0 : decode cX12_doors 0 = .ok (.aload_n 0, 1) := by decide +kernel
theorem dX12_doors_1 : decode cX12_doors 1 = .ok (.iload_n 1, 1) := by decide +kernel
theorem dX12_doors_2 : decode cX12_doors 2 = .ok (.invokevirtual 469, 3) := by decide +kernel
theorem dX12_doors_5 : decode cX12_doors 5 = .ok (.ifCond .eq 12, 3) := by decide +kernel
theorem dX12_doors_8 : decode cX12_doors 8 = .ok (.iload_n 2, 1) := by decide +kernel
theorem dX12_doors_9 : decode cX12_doors 9 = .ok (.iconst 0, 1) := by decide +kernel
theorem dX12_doors_10 : decode cX12_doors 10 = .ok (.iconst 1, 1) := by decide +kernel
theorem dX12_doors_11 : decode cX12_doors 11 = .ok (.invokestatic 235, 3) := by decide +kernel
theorem dX12_doors_14 : decode cX12_doors 14 = .ok (.ifCond .ne 5, 3) := by decide +kernel
theorem dX12_doors_17 : decode cX12_doors 17 = .ok (.iconst (-1), 1) := by decide +kernel
theorem dX12_doors_18 : decode cX12_doors 18 = .ok (.ireturn, 1) := by decide +kernel
theorem dX12_doors_19 : decode cX12_doors 19 = .ok (.aload_n 0, 1) := by decide +kernel
theorem dX12_doors_20 : decode cX12_doors 20 = .ok (.invokevirtual 412, 3) := by decide +kernel
theorem dX12_doors_23 : decode cX12_doors 23 = .ok (.aload_n 0, 1) := by decide +kernel
theorem dX12_doors_24 : decode cX12_doors 24 = .ok (.iconst (-1), 1) := by decide +kernel
theorem dX12_doors_25 : decode cX12_doors 25 = .ok (.putfield 418, 3) := by decide +kernel
theorem dX12_doors_28 : decode cX12_doors 28 = .ok (.aload_n 0, 1) := by decide +kernel
theorem dX12_doors_29 : decode cX12_doors 29 = .ok (.iconst 0, 1) := by decide +kernel
theorem dX12_doors_30 : decode cX12_doors 30 = .ok (.iload_n 1, 1) := by decide +kernel
theorem dX12_doors_31 : decode cX12_doors 31 = .ok (.iconst 0, 1) := by decide +kernel
theorem dX12_doors_32 : decode cX12_doors 32 = .ok (.iconst 0, 1) := by decide +kernel
theorem dX12_doors_33 : decode cX12_doors 33 = .ok (.iconst 0, 1) := by decide +kernel
theorem dX12_doors_34 : decode cX12_doors 34 = .ok (.invokevirtual 472, 3) := by decide +kernel
theorem dX12_doors_37 : decode cX12_doors 37 = .ok (.iload_n 2, 1) := by decide +kernel
theorem dX12_doors_38 : decode cX12_doors 38 = .ok (.ifCond .ne 10, 3) := by decide +kernel
theorem dX12_doors_41 : decode cX12_doors 41 = .ok (.aload_n 0, 1) := by decide +kernel
theorem dX12_doors_42 : decode cX12_doors 42 = .ok (.getfield 418, 3) := by decide +kernel
theorem dX12_doors_45 : decode cX12_doors 45 = .ok (.goto 7, 3) := by decide +kernel
theorem dX12_doors_48 : decode cX12_doors 48 = .ok (.aload_n 0, 1) := by decide +kernel
theorem dX12_doors_49 : decode cX12_doors 49 = .ok (.getfield 462, 3) := by decide +kernel
theorem dX12_doors_52 : decode cX12_doors 52 = .ok (.ireturn, 1) := by decide +kernel
theorem dX12_gameOf_0 : decode cX12_gameOf 0 = .ok (.aload_n 0, 1) := by decide +kernel
theorem dX12_gameOf_1 : decode cX12_gameOf 1 = .ok (.iload_n 2, 1) := by decide +kernel
theorem dX12_gameOf_2 : decode cX12_gameOf 2 = .ok (.invokevirtual 373, 3) := by decide +kernel
theorem dX12_gameOf_5 : decode cX12_gameOf 5 = .ok (.ifCond .eq 22, 3) := by decide +kernel
theorem dX12_gameOf_8 : decode cX12_gameOf 8 = .ok (.aload_n 0, 1) := by decide +kernel
theorem dX12_gameOf_9 : decode cX12_gameOf 9 = .ok (.aload_n 0, 1) := by decide +kernel
theorem dX12_gameOf_10 : decode cX12_gameOf 10 = .ok (.getfield 70, 3) := by decide +kernel
theorem dX12_gameOf_13 : decode cX12_gameOf 13 = .ok (.iconst 0, 1) := by decide +kernel
theorem dX12_gameOf_14 : decode cX12_gameOf 14 = .ok (.iload_n 1, 1) := by decide +kernel
theorem dX12_gameOf_15 : decode cX12_gameOf 15 = .ok (.iadd, 1) := by decide +kernel
theorem dX12_gameOf_16 : decode cX12_gameOf 16 = .ok (.iaload, 1) := by decide +kernel
theorem dX12_gameOf_17 : decode cX12_gameOf 17 = .ok (.iload_n 2, 1) := by decide +kernel
theorem dX12_gameOf_18 : decode cX12_gameOf 18 = .ok (.invokevirtual 415, 3) := by decide +kernel
theorem dX12_gameOf_21 : decode cX12_gameOf 21 = .ok (.ldc_w 411, 3) := by decide +kernel
theorem dX12_gameOf_24 : decode cX12_gameOf 24 = .ok (.if_icmp .lt 6, 3) := by decide +kernel
theorem dX12_gameOf_27 : decode cX12_gameOf 27 = .ok (.bipush (-9), 2) := by decide +kernel
theorem dX12_gameOf_29 : decode cX12_gameOf 29 = .ok (.ireturn, 1) := by decide +kernel
theorem dX12_gameOf_30 : decode cX12_gameOf 30 = .ok (.iconst 3, 1) := by decide +kernel
theorem dX12_gameOf_31 : decode cX12_gameOf 31 = .ok (.aload_n 0, 1) := by decide +kernel
theorem dX12_gameOf_32 : decode cX12_gameOf 32 = .ok (.getfield 55, 3) := by decide +kernel
theorem dX12_gameOf_35 : decode cX12_gameOf 35 = .ok (.iload_n 2, 1) := by decide +kernel
theorem dX12_gameOf_36 : decode cX12_gameOf 36 = .ok (.iaload, 1) := by decide +kernel
theorem dX12_gameOf_37 : decode cX12_gameOf 37 = .ok (.imul, 1) := by decide +kernel
theorem dX12_gameOf_38 : decode cX12_gameOf 38 = .ok (.aload_n 0, 1) := by decide +kernel
theorem dX12_gameOf_39 : decode cX12_gameOf 39 = .ok (.aload_n 0, 1) := by decide +kernel
theorem dX12_gameOf_40 : decode cX12_gameOf 40 = .ok (.getfield 70, 3) := by decide +kernel
theorem dX12_gameOf_43 : decode cX12_gameOf 43 = .ok (.iconst 0, 1) := by decide +kernel
theorem dX12_gameOf_44 : decode cX12_gameOf 44 = .ok (.iload_n 1, 1) := by decide +kernel
theorem dX12_gameOf_45 : decode cX12_gameOf 45 = .ok (.iadd, 1) := by decide +kernel
theorem dX12_gameOf_46 : decode cX12_gameOf 46 = .ok (.iaload, 1) := by decide +kernel
theorem dX12_gameOf_47 : decode cX12_gameOf 47 = .ok (.iload_n 2, 1) := by decide +kernel
theorem dX12_gameOf_48 : decode cX12_gameOf 48 = .ok (.invokevirtual 415, 3) := by decide +kernel
theorem dX12_gameOf_51 : decode cX12_gameOf 51 = .ok (.isub, 1) := by decide +kernel
theorem dX12_gameOf_52 : decode cX12_gameOf 52 = .ok (.istore 4, 2) := by decide +kernel
theorem dX12_gameOf_54 : decode cX12_gameOf 54 = .ok (.iload_n 2, 1) := by decide +kernel
theorem dX12_gameOf_55 : decode cX12_gameOf 55 = .ok (.iload_n 3, 1) := by decide +kernel
theorem dX12_gameOf_56 : decode cX12_gameOf 56 = .ok (.if_icmp .ne 10, 3) := by decide +kernel
theorem dX12_gameOf_59 : decode cX12_gameOf 59 = .ok (.iload 4, 2) := by decide +kernel
theorem dX12_gameOf_61 : decode cX12_gameOf 61 = .ok (.iconst 2, 1) := by decide +kernel
theorem dX12_gameOf_62 : decode cX12_gameOf 62 = .ok (.idiv, 1) := by decide +kernel
theorem dX12_gameOf_63 : decode cX12_gameOf 63 = .ok (.goto 5, 3) := by decide +kernel
theorem dX12_gameOf_66 : decode cX12_gameOf 66 = .ok (.iload 4, 2) := by decide +kernel
theorem dX12_gameOf_68 : decode cX12_gameOf 68 = .ok (.ireturn, 1) := by decide +kernel
theorem dX12_areSets_0 : decode cX12_areSets 0 = .ok (.aload_n 0, 1) := by decide +kernel
theorem dX12_areSets_1 : decode cX12_areSets 1 = .ok (.iload_n 1, 1) := by decide +kernel
theorem dX12_areSets_2 : decode cX12_areSets 2 = .ok (.invokevirtual 370, 3) := by decide +kernel
theorem dX12_areSets_5 : decode cX12_areSets 5 = .ok (.ifCond .eq 20, 3) := by decide +kernel
theorem dX12_areSets_8 : decode cX12_areSets 8 = .ok (.aload_n 0, 1) := by decide +kernel
theorem dX12_areSets_9 : decode cX12_areSets 9 = .ok (.iload_n 2, 1) := by decide +kernel
theorem dX12_areSets_10 : decode cX12_areSets 10 = .ok (.invokevirtual 370, 3) := by decide +kernel
theorem dX12_areSets_13 : decode cX12_areSets 13 = .ok (.ifCond .eq 12, 3) := by decide +kernel
theorem dX12_areSets_16 : decode cX12_areSets 16 = .ok (.iload_n 1, 1) := by decide +kernel
theorem dX12_areSets_17 : decode cX12_areSets 17 = .ok (.iload_n 2, 1) := by decide +kernel
theorem dX12_areSets_18 : decode cX12_areSets 18 = .ok (.if_icmp .eq 7, 3) := by decide +kernel
theorem dX12_areSets_21 : decode cX12_areSets 21 = .ok (.iconst 1, 1) := by decide +kernel
theorem dX12_areSets_22 : decode cX12_areSets 22 = .ok (.goto 4, 3) := by decide +kernel
theorem dX12_areSets_25 : decode cX12_areSets 25 = .ok (.iconst 0, 1) := by decide +kernel
theorem dX12_areSets_26 : decode cX12_areSets 26 = .ok (.ireturn, 1) := by decide +kernel
theorem dX12_game_0 : decode cX12_game 0 = .ok (.aload_n 0, 1) := by decide +kernel
theorem dX12_game_1 : decode cX12_game 1 = .ok (.iload_n 1, 1) := by decide +kernel
theorem dX12_game_2 : decode cX12_game 2 = .ok (.iload_n 2, 1) := by decide +kernel
theorem dX12_game_3 : decode cX12_game 3 = .ok (.invokevirtual 475, 3) := by decide +kernel
theorem dX12_game_6 : decode cX12_game 6 = .ok (.ifCond .eq 34, 3) := by decide +kernel
theorem dX12_game_9 : decode cX12_game 9 = .ok (.iload_n 3, 1) := by decide +kernel
theorem dX12_game_10 : decode cX12_game 10 = .ok (.iconst 0, 1) := by decide +kernel
theorem dX12_game_11 : decode cX12_game 11 = .ok (.bipush 6, 2) := by decide +kernel
theorem dX12_game_13 : decode cX12_game 13 = .ok (.invokestatic 235, 3) := by decide +kernel
theorem dX12_game_16 : decode cX12_game 16 = .ok (.ifCond .eq 24, 3) := by decide +kernel
theorem dX12_game_19 : decode cX12_game 19 = .ok (.iload 4, 2) := by decide +kernel
theorem dX12_game_21 : decode cX12_game 21 = .ok (.iconst 0, 1) := by decide +kernel
theorem dX12_game_22 : decode cX12_game 22 = .ok (.bipush 6, 2) := by decide +kernel
theorem dX12_game_24 : decode cX12_game 24 = .ok (.invokestatic 235, 3) := by decide +kernel
theorem dX12_game_27 : decode cX12_game 27 = .ok (.ifCond .eq 13, 3) := by decide +kernel
theorem dX12_game_30 : decode cX12_game 30 = .ok (.iload 5, 2) := by decide +kernel
theorem dX12_game_32 : decode cX12_game 32 = .ok (.iconst 0, 1) := by decide +kernel
theorem dX12_game_33 : decode cX12_game 33 = .ok (.iconst 1, 1) := by decide +kernel
theorem dX12_game_34 : decode cX12_game 34 = .ok (.invokestatic 235, 3) := by decide +kernel
theorem dX12_game_37 : decode cX12_game 37 = .ok (.ifCond .ne 7, 3) := by decide +kernel
theorem dX12_game_40 : decode cX12_game 40 = .ok (.ldc_w 478, 3) := by decide +kernel
theorem dX12_game_43 : decode cX12_game 43 = .ok (.ireturn, 1) := by decide +kernel
theorem dX12_game_44 : decode cX12_game 44 = .ok (.aload_n 0, 1) := by decide +kernel
theorem dX12_game_45 : decode cX12_game 45 = .ok (.invokevirtual 412, 3) := by decide +kernel
theorem dX12_game_48 : decode cX12_game 48 = .ok (.iload 5, 2) := by decide +kernel
theorem dX12_game_50 : decode cX12_game 50 = .ok (.ifCond .ne 14, 3) := by decide +kernel
theorem dX12_game_53 : decode cX12_game 53 = .ok (.aload_n 0, 1) := by decide +kernel
theorem dX12_game_54 : decode cX12_game 54 = .ok (.iload_n 1, 1) := by decide +kernel
theorem dX12_game_55 : decode cX12_game 55 = .ok (.iload_n 3, 1) := by decide +kernel
theorem dX12_game_56 : decode cX12_game 56 = .ok (.iload 4, 2) := by decide +kernel
theorem dX12_game_58 : decode cX12_game 58 = .ok (.invokevirtual 479, 3) := by decide +kernel
theorem dX12_game_61 : decode cX12_game 61 = .ok (.goto 11, 3) := by decide +kernel
theorem dX12_game_64 : decode cX12_game 64 = .ok (.aload_n 0, 1) := by decide +kernel
theorem dX12_game_65 : decode cX12_game 65 = .ok (.iload_n 2, 1) := by decide +kernel
theorem dX12_game_66 : decode cX12_game 66 = .ok (.iload 4, 2) := by decide +kernel
theorem dX12_game_68 : decode cX12_game 68 = .ok (.iload_n 3, 1) := by decide +kernel
theorem dX12_game_69 : decode cX12_game 69 = .ok (.invokevirtual 479, 3) := by decide +kernel
theorem dX12_game_72 : decode cX12_game 72 = .ok (.ireturn, 1) := by decide +kernel
theorem dX12_isRest_0 : decode cX12_isRest 0 = .ok (.iconst 0, 1) := by decide +kernel
theorem dX12_isRest_1 : decode cX12_isRest 1 = .ok (.istore 5, 2) := by decide +kernel
theorem dX12_isRest_3 : decode cX12_isRest 3 = .ok (.iload 5, 2) := by decide +kernel
theorem dX12_isRest_5 : decode cX12_isRest 5 = .ok (.aload_n 0, 1) := by decide +kernel
theorem dX12_isRest_6 : decode cX12_isRest 6 = .ok (.getfield 288, 3) := by decide +kernel
theorem dX12_isRest_9 : decode cX12_isRest 9 = .ok (.if_icmp .ge 50, 3) := by decide +kernel
theorem dX12_isRest_12 : decode cX12_isRest 12 = .ok (.aload_n 0, 1) := by decide +kernel
theorem dX12_isRest_13 : decode cX12_isRest 13 = .ok (.iload_n 1, 1) := by decide +kernel
theorem dX12_isRest_14 : decode cX12_isRest 14 = .ok (.iload 5, 2) := by decide +kernel
theorem dX12_isRest_16 : decode cX12_isRest 16 = .ok (.iload 4, 2) := by decide +kernel
theorem dX12_isRest_18 : decode cX12_isRest 18 = .ok (.invokevirtual 479, 3) := by decide +kernel
theorem dX12_isRest_21 : decode cX12_isRest 21 = .ok (.aload_n 0, 1) := by decide +kernel
theorem dX12_isRest_22 : decode cX12_isRest 22 = .ok (.iload_n 1, 1) := by decide +kernel
theorem dX12_isRest_23 : decode cX12_isRest 23 = .ok (.iload_n 3, 1) := by decide +kernel
theorem dX12_isRest_24 : decode cX12_isRest 24 = .ok (.iload 4, 2) := by decide +kernel
theorem dX12_isRest_26 : decode cX12_isRest 26 = .ok (.invokevirtual 479, 3) := by decide +kernel
theorem dX12_isRest_29 : decode cX12_isRest 29 = .ok (.if_icmp .gt 22, 3) := by decide +kernel
theorem dX12_isRest_32 : decode cX12_isRest 32 = .ok (.aload_n 0, 1) := by decide +kernel
theorem dX12_isRest_33 : decode cX12_isRest 33 = .ok (.iload_n 2, 1) := by decide +kernel
theorem dX12_isRest_34 : decode cX12_isRest 34 = .ok (.iload 5, 2) := by decide +kernel
theorem dX12_isRest_36 : decode cX12_isRest 36 = .ok (.iload_n 3, 1) := by decide +kernel
theorem dX12_isRest_37 : decode cX12_isRest 37 = .ok (.invokevirtual 479, 3) := by decide +kernel
theorem dX12_isRest_40 : decode cX12_isRest 40 = .ok (.aload_n 0, 1) := by decide +kernel
theorem dX12_isRest_41 : decode cX12_isRest 41 = .ok (.iload_n 2, 1) := by decide +kernel
theorem dX12_isRest_42 : decode cX12_isRest 42 = .ok (.iload 4, 2) := by decide +kernel
theorem dX12_isRest_44 : decode cX12_isRest 44 = .ok (.iload_n 3, 1) := by decide +kernel
theorem dX12_isRest_45 : decode cX12_isRest 45 = .ok (.invokevirtual 479, 3) := by decide +kernel
theorem dX12_isRest_48 : decode cX12_isRest 48 = .ok (.if_icmp .le 5, 3) := by decide +kernel
theorem dX12_isRest_51 : decode cX12_isRest 51 = .ok (.iconst 0, 1) := by decide +kernel
theorem dX12_isRest_52 : decode cX12_isRest 52 = .ok (.ireturn, 1) := by decide +kernel
theorem dX12_isRest_53 : decode cX12_isRest 53 = .ok (.iinc 5 1, 3) := by decide +kernel
theorem dX12_isRest_56 : decode cX12_isRest 56 = .ok (.goto (-53), 3) := by decide +kernel
theorem dX12_isRest_59 : decode cX12_isRest 59 = .ok (.iconst 1, 1) := by decide +kernel
theorem dX12_isRest_60 : decode cX12_isRest 60 = .ok (.ireturn, 1) := by decide +kernel
theorem dX12_rests_0 : decode cX12_rests 0 = .ok (.aload_n 0, 1) := by decide +kernel
theorem dX12_rests_1 : decode cX12_rests 1 = .ok (.iload_n 1, 1) := by decide +kernel
theorem dX12_rests_2 : decode cX12_rests 2 = .ok (.iload_n 2, 1) := by decide +kernel
theorem dX12_rests_3 : decode cX12_rests 3 = .ok (.invokevirtual 475, 3) := by decide +kernel
theorem dX12_rests_6 : decode cX12_rests 6 = .ok (.ifCond .eq 8, 3) := by decide +kernel
theorem dX12_rests_9 : decode cX12_rests 9 = .ok (.iload_n 3, 1) := by decide +kernel
theorem dX12_rests_10 : decode cX12_rests 10 = .ok (.iconst (-1), 1) := by decide +kernel
theorem dX12_rests_11 : decode cX12_rests 11 = .ok (.if_icmp .ge 5, 3) := by decide +kernel
theorem dX12_rests_14 : decode cX12_rests 14 = .ok (.iconst (-1), 1) := by decide +kernel
theorem dX12_rests_15 : decode cX12_rests 15 = .ok (.ireturn, 1) := by decide +kernel
theorem dX12_rests_16 : decode cX12_rests 16 = .ok (.aload_n 0, 1) := by decide +kernel
theorem dX12_rests_17 : decode cX12_rests 17 = .ok (.invokevirtual 412, 3) := by decide +kernel
theorem dX12_rests_20 : decode cX12_rests 20 = .ok (.iconst 0, 1) := by decide +kernel
theorem dX12_rests_21 : decode cX12_rests 21 = .ok (.istore 4, 2) := by decide +kernel
theorem dX12_rests_23 : decode cX12_rests 23 = .ok (.iconst 0, 1) := by decide +kernel
theorem dX12_rests_24 : decode cX12_rests 24 = .ok (.istore 5, 2) := by decide +kernel
theorem dX12_rests_26 : decode cX12_rests 26 = .ok (.iload 5, 2) := by decide +kernel
theorem dX12_rests_28 : decode cX12_rests 28 = .ok (.aload_n 0, 1) := by decide +kernel
theorem dX12_rests_29 : decode cX12_rests 29 = .ok (.getfield 288, 3) := by decide +kernel
theorem dX12_rests_32 : decode cX12_rests 32 = .ok (.aload_n 0, 1) := by decide +kernel
theorem dX12_rests_33 : decode cX12_rests 33 = .ok (.getfield 288, 3) := by decide +kernel
theorem dX12_rests_36 : decode cX12_rests 36 = .ok (.imul, 1) := by decide +kernel
theorem dX12_rests_37 : decode cX12_rests 37 = .ok (.if_icmp .ge 60, 3) := by decide +kernel
theorem dX12_rests_40 : decode cX12_rests 40 = .ok (.aload_n 0, 1) := by decide +kernel
theorem dX12_rests_41 : decode cX12_rests 41 = .ok (.iload_n 1, 1) := by decide +kernel
theorem dX12_rests_42 : decode cX12_rests 42 = .ok (.iload_n 2, 1) := by decide +kernel
theorem dX12_rests_43 : decode cX12_rests 43 = .ok (.iload 5, 2) := by decide +kernel
theorem dX12_rests_45 : decode cX12_rests 45 = .ok (.aload_n 0, 1) := by decide +kernel
theorem dX12_rests_46 : decode cX12_rests 46 = .ok (.getfield 288, 3) := by decide +kernel
theorem dX12_rests_49 : decode cX12_rests 49 = .ok (.idiv, 1) := by decide +kernel
theorem dX12_rests_50 : decode cX12_rests 50 = .ok (.iload 5, 2) := by decide +kernel
theorem dX12_rests_52 : decode cX12_rests 52 = .ok (.aload_n 0, 1) := by decide +kernel
theorem dX12_rests_53 : decode cX12_rests 53 = .ok (.getfield 288, 3) := by decide +kernel
theorem dX12_rests_56 : decode cX12_rests 56 = .ok (.irem, 1) := by decide +kernel
theorem dX12_rests_57 : decode cX12_rests 57 = .ok (.invokevirtual 482, 3) := by decide +kernel
theorem dX12_rests_60 : decode cX12_rests 60 = .ok (.ifCond .eq 31, 3) := by decide +kernel
theorem dX12_rests_63 : decode cX12_rests 63 = .ok (.iload 4, 2) := by decide +kernel
theorem dX12_rests_65 : decode cX12_rests 65 = .ok (.iload_n 3, 1) := by decide +kernel
theorem dX12_rests_66 : decode cX12_rests 66 = .ok (.if_icmp .ne 22, 3) := by decide +kernel
theorem dX12_rests_69 : decode cX12_rests 69 = .ok (.bipush 10, 2) := by decide +kernel
theorem dX12_rests_71 : decode cX12_rests 71 = .ok (.iload 5, 2) := by decide +kernel
theorem dX12_rests_73 : decode cX12_rests 73 = .ok (.aload_n 0, 1) := by decide +kernel
theorem dX12_rests_74 : decode cX12_rests 74 = .ok (.getfield 288, 3) := by decide +kernel
theorem dX12_rests_77 : decode cX12_rests 77 = .ok (.idiv, 1) := by decide +kernel
theorem dX12_rests_78 : decode cX12_rests 78 = .ok (.imul, 1) := by decide +kernel
theorem dX12_rests_79 : decode cX12_rests 79 = .ok (.iload 5, 2) := by decide +kernel
theorem dX12_rests_81 : decode cX12_rests 81 = .ok (.aload_n 0, 1) := by decide +kernel
theorem dX12_rests_82 : decode cX12_rests 82 = .ok (.getfield 288, 3) := by decide +kernel
theorem dX12_rests_85 : decode cX12_rests 85 = .ok (.irem, 1) := by decide +kernel
theorem dX12_rests_86 : decode cX12_rests 86 = .ok (.iadd, 1) := by decide +kernel
theorem dX12_rests_87 : decode cX12_rests 87 = .ok (.ireturn, 1) := by decide +kernel
theorem dX12_rests_88 : decode cX12_rests 88 = .ok (.iinc 4 1, 3) := by decide +kernel
theorem dX12_rests_91 : decode cX12_rests 91 = .ok (.iinc 5 1, 3) := by decide +kernel
theorem dX12_rests_94 : decode cX12_rests 94 = .ok (.goto (-68), 3) := by decide +kernel
theorem dX12_rests_97 : decode cX12_rests 97 = .ok (.iload_n 3, 1) := by decide +kernel
theorem dX12_rests_98 : decode cX12_rests 98 = .ok (.iconst (-1), 1) := by decide +kernel
theorem dX12_rests_99 : decode cX12_rests 99 = .ok (.if_icmp .ne 8, 3) := by decide +kernel
theorem dX12_rests_102 : decode cX12_rests 102 = .ok (.iload 4, 2) := by decide +kernel
theorem dX12_rests_104 : decode cX12_rests 104 = .ok (.goto 4, 3) := by decide +kernel
theorem dX12_rests_107 : decode cX12_rests 107 = .ok (.iconst (-1), 1) := by decide +kernel
theorem dX12_rests_108 : decode cX12_rests 108 = .ok (.ireturn, 1) := by decide +kernel
theorem dX12_oddsFrom_0 : decode cX12_oddsFrom 0 = .ok (.iload 6, 2) := by decide +kernel
theorem dX12_oddsFrom_2 : decode cX12_oddsFrom 2 = .ok (.ifCond .ne 5, 3) := by decide +kernel
theorem dX12_oddsFrom_5 : decode cX12_oddsFrom 5 = .ok (.iconst 0, 1) := by decide +kernel
theorem dX12_oddsFrom_6 : decode cX12_oddsFrom 6 = .ok (.ireturn, 1) := by decide +kernel
theorem dX12_oddsFrom_7 : decode cX12_oddsFrom 7 = .ok (.iload_n 1, 1) := by decide +kernel
theorem dX12_oddsFrom_8 : decode cX12_oddsFrom 8 = .ok (.aload_n 0, 1) := by decide +kernel
theorem dX12_oddsFrom_9 : decode cX12_oddsFrom 9 = .ok (.getfield 291, 3) := by decide +kernel
theorem dX12_oddsFrom_12 : decode cX12_oddsFrom 12 = .ok (.if_icmp .ne 24, 3) := by decide +kernel
theorem dX12_oddsFrom_15 : decode cX12_oddsFrom 15 = .ok (.aload_n 0, 1) := by decide +kernel
theorem dX12_oddsFrom_16 : decode cX12_oddsFrom 16 = .ok (.iload_n 3, 1) := by decide +kernel
theorem dX12_oddsFrom_17 : decode cX12_oddsFrom 17 = .ok (.iload_n 2, 1) := by decide +kernel
theorem dX12_oddsFrom_18 : decode cX12_oddsFrom 18 = .ok (.invokevirtual 440, 3) := by decide +kernel
theorem dX12_oddsFrom_21 : decode cX12_oddsFrom 21 = .ok (.iload 4, 2) := by decide +kernel
theorem dX12_oddsFrom_23 : decode cX12_oddsFrom 23 = .ok (.invokestatic 246, 3) := by decide +kernel
theorem dX12_oddsFrom_26 : decode cX12_oddsFrom 26 = .ok (.ifCond .eq 8, 3) := by decide +kernel
theorem dX12_oddsFrom_29 : decode cX12_oddsFrom 29 = .ok (.iload 6, 2) := by decide +kernel
theorem dX12_oddsFrom_31 : decode cX12_oddsFrom 31 = .ok (.goto 4, 3) := by decide +kernel
theorem dX12_oddsFrom_34 : decode cX12_oddsFrom 34 = .ok (.iconst 0, 1) := by decide +kernel
theorem dX12_oddsFrom_35 : decode cX12_oddsFrom 35 = .ok (.ireturn, 1) := by decide +kernel
theorem dX12_oddsFrom_36 : decode cX12_oddsFrom 36 = .ok (.aload_n 0, 1) := by decide +kernel
theorem dX12_oddsFrom_37 : decode cX12_oddsFrom 37 = .ok (.iload_n 1, 1) := by decide +kernel
theorem dX12_oddsFrom_38 : decode cX12_oddsFrom 38 = .ok (.invokevirtual 334, 3) := by decide +kernel
theorem dX12_oddsFrom_41 : decode cX12_oddsFrom 41 = .ok (.ifCond .eq 19, 3) := by decide +kernel
theorem dX12_oddsFrom_44 : decode cX12_oddsFrom 44 = .ok (.aload_n 0, 1) := by decide +kernel
theorem dX12_oddsFrom_45 : decode cX12_oddsFrom 45 = .ok (.iload_n 1, 1) := by decide +kernel
theorem dX12_oddsFrom_46 : decode cX12_oddsFrom 46 = .ok (.iconst 1, 1) := by decide +kernel
theorem dX12_oddsFrom_47 : decode cX12_oddsFrom 47 = .ok (.iadd, 1) := by decide +kernel
theorem dX12_oddsFrom_48 : decode cX12_oddsFrom 48 = .ok (.iload_n 2, 1) := by decide +kernel
theorem dX12_oddsFrom_49 : decode cX12_oddsFrom 49 = .ok (.iload_n 3, 1) := by decide +kernel
theorem dX12_oddsFrom_50 : decode cX12_oddsFrom 50 = .ok (.iload 4, 2) := by decide +kernel
theorem dX12_oddsFrom_52 : decode cX12_oddsFrom 52 = .ok (.iload 5, 2) := by decide +kernel
theorem dX12_oddsFrom_54 : decode cX12_oddsFrom 54 = .ok (.iload 6, 2) := by decide +kernel
theorem dX12_oddsFrom_56 : decode cX12_oddsFrom 56 = .ok (.invokevirtual 486, 3) := by decide +kernel
theorem dX12_oddsFrom_59 : decode cX12_oddsFrom 59 = .ok (.ireturn, 1) := by decide +kernel
theorem dX12_oddsFrom_60 : decode cX12_oddsFrom 60 = .ok (.iload 6, 2) := by decide +kernel
theorem dX12_oddsFrom_62 : decode cX12_oddsFrom 62 = .ok (.i2l, 1) := by decide +kernel
theorem dX12_oddsFrom_63 : decode cX12_oddsFrom 63 = .ok (.iload 5, 2) := by decide +kernel
theorem dX12_oddsFrom_65 : decode cX12_oddsFrom 65 = .ok (.i2l, 1) := by decide +kernel
theorem dX12_oddsFrom_66 : decode cX12_oddsFrom 66 = .ok (.lmul, 1) := by decide +kernel
theorem dX12_oddsFrom_67 : decode cX12_oddsFrom 67 = .ok (.ldc2_w 489, 3) := by decide +kernel
theorem dX12_oddsFrom_70 : decode cX12_oddsFrom 70 = .ok (.ldiv, 1) := by decide +kernel
theorem dX12_oddsFrom_71 : decode cX12_oddsFrom 71 = .ok (.l2i, 1) := by decide +kernel
theorem dX12_oddsFrom_72 : decode cX12_oddsFrom 72 = .ok (.istore 7, 2) := by decide +kernel
theorem dX12_oddsFrom_74 : decode cX12_oddsFrom 74 = .ok (.aload_n 0, 1) := by decide +kernel
theorem dX12_oddsFrom_75 : decode cX12_oddsFrom 75 = .ok (.iload_n 1, 1) := by decide +kernel
theorem dX12_oddsFrom_76 : decode cX12_oddsFrom 76 = .ok (.iconst 1, 1) := by decide +kernel
theorem dX12_oddsFrom_77 : decode cX12_oddsFrom 77 = .ok (.iadd, 1) := by decide +kernel
theorem dX12_oddsFrom_78 : decode cX12_oddsFrom 78 = .ok (.iload_n 2, 1) := by decide +kernel
theorem dX12_oddsFrom_79 : decode cX12_oddsFrom 79 = .ok (.iload_n 3, 1) := by decide +kernel
theorem dX12_oddsFrom_80 : decode cX12_oddsFrom 80 = .ok (.iload 4, 2) := by decide +kernel
theorem dX12_oddsFrom_82 : decode cX12_oddsFrom 82 = .ok (.iload 5, 2) := by decide +kernel
theorem dX12_oddsFrom_84 : decode cX12_oddsFrom 84 = .ok (.iload 7, 2) := by decide +kernel
theorem dX12_oddsFrom_86 : decode cX12_oddsFrom 86 = .ok (.invokevirtual 486, 3) := by decide +kernel
theorem dX12_oddsFrom_89 : decode cX12_oddsFrom 89 = .ok (.aload_n 0, 1) := by decide +kernel
theorem dX12_oddsFrom_90 : decode cX12_oddsFrom 90 = .ok (.iload_n 1, 1) := by decide +kernel
theorem dX12_oddsFrom_91 : decode cX12_oddsFrom 91 = .ok (.iconst 1, 1) := by decide +kernel
theorem dX12_oddsFrom_92 : decode cX12_oddsFrom 92 = .ok (.iadd, 1) := by decide +kernel
theorem dX12_oddsFrom_93 : decode cX12_oddsFrom 93 = .ok (.iload_n 2, 1) := by decide +kernel
theorem dX12_oddsFrom_94 : decode cX12_oddsFrom 94 = .ok (.iconst 1, 1) := by decide +kernel
theorem dX12_oddsFrom_95 : decode cX12_oddsFrom 95 = .ok (.iload_n 1, 1) := by decide +kernel
theorem dX12_oddsFrom_96 : decode cX12_oddsFrom 96 = .ok (.ishl, 1) := by decide +kernel
theorem dX12_oddsFrom_97 : decode cX12_oddsFrom 97 = .ok (.ior, 1) := by decide +kernel
theorem dX12_oddsFrom_98 : decode cX12_oddsFrom 98 = .ok (.iload_n 3, 1) := by decide +kernel
theorem dX12_oddsFrom_99 : decode cX12_oddsFrom 99 = .ok (.iload 4, 2) := by decide +kernel
theorem dX12_oddsFrom_101 : decode cX12_oddsFrom 101 = .ok (.iload 5, 2) := by decide +kernel
theorem dX12_oddsFrom_103 : decode cX12_oddsFrom 103 = .ok (.iload 6, 2) := by decide +kernel
theorem dX12_oddsFrom_105 : decode cX12_oddsFrom 105 = .ok (.iload 7, 2) := by decide +kernel
theorem dX12_oddsFrom_107 : decode cX12_oddsFrom 107 = .ok (.isub, 1) := by decide +kernel
theorem dX12_oddsFrom_108 : decode cX12_oddsFrom 108 = .ok (.invokevirtual 486, 3) := by decide +kernel
theorem dX12_oddsFrom_111 : decode cX12_oddsFrom 111 = .ok (.iadd, 1) := by decide +kernel
theorem dX12_oddsFrom_112 : decode cX12_oddsFrom 112 = .ok (.ireturn, 1) := by decide +kernel
theorem dX12_odds_0 : decode cX12_odds 0 = .ok (.aload_n 0, 1) := by decide +kernel
theorem dX12_odds_1 : decode cX12_odds 1 = .ok (.iload_n 1, 1) := by decide +kernel
theorem dX12_odds_2 : decode cX12_odds 2 = .ok (.invokevirtual 373, 3) := by decide +kernel
theorem dX12_odds_5 : decode cX12_odds 5 = .ok (.ifCond .eq 21, 3) := by decide +kernel
theorem dX12_odds_8 : decode cX12_odds 8 = .ok (.aload_n 0, 1) := by decide +kernel
theorem dX12_odds_9 : decode cX12_odds 9 = .ok (.iload_n 2, 1) := by decide +kernel
theorem dX12_odds_10 : decode cX12_odds 10 = .ok (.invokevirtual 373, 3) := by decide +kernel
theorem dX12_odds_13 : decode cX12_odds 13 = .ok (.ifCond .eq 13, 3) := by decide +kernel
theorem dX12_odds_16 : decode cX12_odds 16 = .ok (.iload_n 3, 1) := by decide +kernel
theorem dX12_odds_17 : decode cX12_odds 17 = .ok (.iconst 0, 1) := by decide +kernel
theorem dX12_odds_18 : decode cX12_odds 18 = .ok (.bipush 100, 2) := by decide +kernel
theorem dX12_odds_20 : decode cX12_odds 20 = .ok (.invokestatic 235, 3) := by decide +kernel
theorem dX12_odds_23 : decode cX12_odds 23 = .ok (.ifCond .ne 5, 3) := by decide +kernel
theorem dX12_odds_26 : decode cX12_odds 26 = .ok (.iconst (-1), 1) := by decide +kernel
theorem dX12_odds_27 : decode cX12_odds 27 = .ok (.ireturn, 1) := by decide +kernel
theorem dX12_odds_28 : decode cX12_odds 28 = .ok (.aload_n 0, 1) := by decide +kernel
theorem dX12_odds_29 : decode cX12_odds 29 = .ok (.iconst 0, 1) := by decide +kernel
theorem dX12_odds_30 : decode cX12_odds 30 = .ok (.iconst 0, 1) := by decide +kernel
theorem dX12_odds_31 : decode cX12_odds 31 = .ok (.iload_n 1, 1) := by decide +kernel
theorem dX12_odds_32 : decode cX12_odds 32 = .ok (.iload_n 2, 1) := by decide +kernel
theorem dX12_odds_33 : decode cX12_odds 33 = .ok (.iload_n 3, 1) := by decide +kernel
theorem dX12_odds_34 : decode cX12_odds 34 = .ok (.ldc_w 491, 3) := by decide +kernel
theorem dX12_odds_37 : decode cX12_odds 37 = .ok (.invokevirtual 486, 3) := by decide +kernel
theorem dX12_odds_40 : decode cX12_odds 40 = .ok (.ireturn, 1) := by decide +kernel
theorem dX12_dead_0 : decode cX12_dead 0 = .ok (.aload_n 0, 1) := by decide +kernel
theorem dX12_dead_1 : decode cX12_dead 1 = .ok (.iload_n 1, 1) := by decide +kernel
theorem dX12_dead_2 : decode cX12_dead 2 = .ok (.invokevirtual 373, 3) := by decide +kernel
theorem dX12_dead_5 : decode cX12_dead 5 = .ok (.ifCond .eq 23, 3) := by decide +kernel
theorem dX12_dead_8 : decode cX12_dead 8 = .ok (.aload_n 0, 1) := by decide +kernel
theorem dX12_dead_9 : decode cX12_dead 9 = .ok (.getfield 288, 3) := by decide +kernel
theorem dX12_dead_12 : decode cX12_dead 12 = .ok (.aload_n 0, 1) := by decide +kernel
theorem dX12_dead_13 : decode cX12_dead 13 = .ok (.iload_n 1, 1) := by decide +kernel
theorem dX12_dead_14 : decode cX12_dead 14 = .ok (.aload_n 0, 1) := by decide +kernel
theorem dX12_dead_15 : decode cX12_dead 15 = .ok (.invokevirtual 437, 3) := by decide +kernel
theorem dX12_dead_18 : decode cX12_dead 18 = .ok (.invokevirtual 440, 3) := by decide +kernel
theorem dX12_dead_21 : decode cX12_dead 21 = .ok (.invokestatic 319, 3) := by decide +kernel
theorem dX12_dead_24 : decode cX12_dead 24 = .ok (.isub, 1) := by decide +kernel
theorem dX12_dead_25 : decode cX12_dead 25 = .ok (.goto 4, 3) := by decide +kernel
theorem dX12_dead_28 : decode cX12_dead 28 = .ok (.iconst (-1), 1) := by decide +kernel
theorem dX12_dead_29 : decode cX12_dead 29 = .ok (.ireturn, 1) := by decide +kernel
theorem dX12_shares_0 : decode cX12_shares 0 = .ok (.aload_n 0, 1) := by decide +kernel
theorem dX12_shares_1 : decode cX12_shares 1 = .ok (.iload_n 1, 1) := by decide +kernel
theorem dX12_shares_2 : decode cX12_shares 2 = .ok (.invokevirtual 373, 3) := by decide +kernel
theorem dX12_shares_5 : decode cX12_shares 5 = .ok (.ifCond .eq 14, 3) := by decide +kernel
theorem dX12_shares_8 : decode cX12_shares 8 = .ok (.iload_n 2, 1) := by decide +kernel
theorem dX12_shares_9 : decode cX12_shares 9 = .ok (.iconst 0, 1) := by decide +kernel
theorem dX12_shares_10 : decode cX12_shares 10 = .ok (.sipush 999, 3) := by decide +kernel
theorem dX12_shares_13 : decode cX12_shares 13 = .ok (.invokestatic 235, 3) := by decide +kernel
theorem dX12_shares_16 : decode cX12_shares 16 = .ok (.ifCond .ne 5, 3) := by decide +kernel
theorem dX12_shares_19 : decode cX12_shares 19 = .ok (.iconst (-1), 1) := by decide +kernel
theorem dX12_shares_20 : decode cX12_shares 20 = .ok (.ireturn, 1) := by decide +kernel
theorem dX12_shares_21 : decode cX12_shares 21 = .ok (.iconst 0, 1) := by decide +kernel
theorem dX12_shares_22 : decode cX12_shares 22 = .ok (.istore_n 3, 1) := by decide +kernel
theorem dX12_shares_23 : decode cX12_shares 23 = .ok (.iconst 0, 1) := by decide +kernel
theorem dX12_shares_24 : decode cX12_shares 24 = .ok (.istore 4, 2) := by decide +kernel
theorem dX12_shares_26 : decode cX12_shares 26 = .ok (.iload 4, 2) := by decide +kernel
theorem dX12_shares_28 : decode cX12_shares 28 = .ok (.aload_n 0, 1) := by decide +kernel
theorem dX12_shares_29 : decode cX12_shares 29 = .ok (.getfield 288, 3) := by decide +kernel
theorem dX12_shares_32 : decode cX12_shares 32 = .ok (.if_icmp .ge 22, 3) := by decide +kernel
theorem dX12_shares_35 : decode cX12_shares 35 = .ok (.iload_n 3, 1) := by decide +kernel
theorem dX12_shares_36 : decode cX12_shares 36 = .ok (.aload_n 0, 1) := by decide +kernel
theorem dX12_shares_37 : decode cX12_shares 37 = .ok (.getfield 70, 3) := by decide +kernel
theorem dX12_shares_40 : decode cX12_shares 40 = .ok (.bipush 24, 2) := by decide +kernel
theorem dX12_shares_42 : decode cX12_shares 42 = .ok (.iload 4, 2) := by decide +kernel
theorem dX12_shares_44 : decode cX12_shares 44 = .ok (.iadd, 1) := by decide +kernel
theorem dX12_shares_45 : decode cX12_shares 45 = .ok (.iaload, 1) := by decide +kernel
theorem dX12_shares_46 : decode cX12_shares 46 = .ok (.iadd, 1) := by decide +kernel
theorem dX12_shares_47 : decode cX12_shares 47 = .ok (.istore_n 3, 1) := by decide +kernel
theorem dX12_shares_48 : decode cX12_shares 48 = .ok (.iinc 4 1, 3) := by decide +kernel
theorem dX12_shares_51 : decode cX12_shares 51 = .ok (.goto (-25), 3) := by decide +kernel
theorem dX12_shares_54 : decode cX12_shares 54 = .ok (.iload_n 3, 1) := by decide +kernel
theorem dX12_shares_55 : decode cX12_shares 55 = .ok (.ifCond .ne 7, 3) := by decide +kernel
theorem dX12_shares_58 : decode cX12_shares 58 = .ok (.iconst 0, 1) := by decide +kernel
theorem dX12_shares_59 : decode cX12_shares 59 = .ok (.goto 16, 3) := by decide +kernel
theorem dX12_shares_62 : decode cX12_shares 62 = .ok (.iload_n 2, 1) := by decide +kernel
theorem dX12_shares_63 : decode cX12_shares 63 = .ok (.aload_n 0, 1) := by decide +kernel
theorem dX12_shares_64 : decode cX12_shares 64 = .ok (.getfield 70, 3) := by decide +kernel
theorem dX12_shares_67 : decode cX12_shares 67 = .ok (.bipush 24, 2) := by decide +kernel
theorem dX12_shares_69 : decode cX12_shares 69 = .ok (.iload_n 1, 1) := by decide +kernel
theorem dX12_shares_70 : decode cX12_shares 70 = .ok (.iadd, 1) := by decide +kernel
theorem dX12_shares_71 : decode cX12_shares 71 = .ok (.iaload, 1) := by decide +kernel
theorem dX12_shares_72 : decode cX12_shares 72 = .ok (.imul, 1) := by decide +kernel
theorem dX12_shares_73 : decode cX12_shares 73 = .ok (.iload_n 3, 1) := by decide +kernel
theorem dX12_shares_74 : decode cX12_shares 74 = .ok (.idiv, 1) := by decide +kernel
theorem dX12_shares_75 : decode cX12_shares 75 = .ok (.ireturn, 1) := by decide +kernel
theorem dX12_farthestFrom_0 : decode cX12_farthestFrom 0 = .ok (.iconst 0, 1) := by decide +kernel
theorem dX12_farthestFrom_1 : decode cX12_farthestFrom 1 = .ok (.istore_n 2, 1) := by decide +kernel
theorem dX12_farthestFrom_2 : decode cX12_farthestFrom 2 = .ok (.iconst 0, 1) := by decide +kernel
theorem dX12_farthestFrom_3 : decode cX12_farthestFrom 3 = .ok (.istore_n 3, 1) := by decide +kernel
theorem dX12_farthestFrom_4 : decode cX12_farthestFrom 4 = .ok (.iload_n 3, 1) := by decide +kernel
theorem dX12_farthestFrom_5 : decode cX12_farthestFrom 5 = .ok (.aload_n 0, 1) := by decide +kernel
theorem dX12_farthestFrom_6 : decode cX12_farthestFrom 6 = .ok (.getfield 288, 3) := by decide +kernel
theorem dX12_farthestFrom_9 : decode cX12_farthestFrom 9 = .ok (.if_icmp .ge 36, 3) := by decide +kernel
theorem dX12_farthestFrom_12 : decode cX12_farthestFrom 12 = .ok (.aload_n 0, 1) := by decide +kernel
theorem dX12_farthestFrom_13 : decode cX12_farthestFrom 13 = .ok (.iload_n 1, 1) := by decide +kernel
theorem dX12_farthestFrom_14 : decode cX12_farthestFrom 14 = .ok (.iload_n 3, 1) := by decide +kernel
theorem dX12_farthestFrom_15 : decode cX12_farthestFrom 15 = .ok (.invokevirtual 415, 3) := by decide +kernel
theorem dX12_farthestFrom_18 : decode cX12_farthestFrom 18 = .ok (.ldc_w 411, 3) := by decide +kernel
theorem dX12_farthestFrom_21 : decode cX12_farthestFrom 21 = .ok (.if_icmp .ge 16, 3) := by decide +kernel
theorem dX12_farthestFrom_24 : decode cX12_farthestFrom 24 = .ok (.iload_n 2, 1) := by decide +kernel
theorem dX12_farthestFrom_25 : decode cX12_farthestFrom 25 = .ok (.aload_n 0, 1) := by decide +kernel
theorem dX12_farthestFrom_26 : decode cX12_farthestFrom 26 = .ok (.iload_n 1, 1) := by decide +kernel
theorem dX12_farthestFrom_27 : decode cX12_farthestFrom 27 = .ok (.iload_n 3, 1) := by decide +kernel
theorem dX12_farthestFrom_28 : decode cX12_farthestFrom 28 = .ok (.invokevirtual 415, 3) := by decide +kernel
theorem dX12_farthestFrom_31 : decode cX12_farthestFrom 31 = .ok (.invokestatic 329, 3) := by decide +kernel
theorem dX12_farthestFrom_34 : decode cX12_farthestFrom 34 = .ok (.goto 4, 3) := by decide +kernel
theorem dX12_farthestFrom_37 : decode cX12_farthestFrom 37 = .ok (.iload_n 2, 1) := by decide +kernel
theorem dX12_farthestFrom_38 : decode cX12_farthestFrom 38 = .ok (.istore_n 2, 1) := by decide +kernel
theorem dX12_farthestFrom_39 : decode cX12_farthestFrom 39 = .ok (.iinc 3 1, 3) := by decide +kernel
theorem dX12_farthestFrom_42 : decode cX12_farthestFrom 42 = .ok (.goto (-38), 3) := by decide +kernel
theorem dX12_farthestFrom_45 : decode cX12_farthestFrom 45 = .ok (.iload_n 2, 1) := by decide +kernel
theorem dX12_farthestFrom_46 : decode cX12_farthestFrom 46 = .ok (.ireturn, 1) := by decide +kernel
theorem dX12_topPlace_0 : decode cX12_topPlace 0 = .ok (.iconst 0, 1) := by decide +kernel
theorem dX12_topPlace_1 : decode cX12_topPlace 1 = .ok (.istore_n 2, 1) := by decide +kernel
theorem dX12_topPlace_2 : decode cX12_topPlace 2 = .ok (.iconst 1, 1) := by decide +kernel
theorem dX12_topPlace_3 : decode cX12_topPlace 3 = .ok (.istore_n 3, 1) := by decide +kernel
theorem dX12_topPlace_4 : decode cX12_topPlace 4 = .ok (.iload_n 3, 1) := by decide +kernel
theorem dX12_topPlace_5 : decode cX12_topPlace 5 = .ok (.aload_n 0, 1) := by decide +kernel
theorem dX12_topPlace_6 : decode cX12_topPlace 6 = .ok (.getfield 288, 3) := by decide +kernel
theorem dX12_topPlace_9 : decode cX12_topPlace 9 = .ok (.if_icmp .ge 80, 3) := by decide +kernel
theorem dX12_topPlace_12 : decode cX12_topPlace 12 = .ok (.iload_n 1, 1) := by decide +kernel
theorem dX12_topPlace_13 : decode cX12_topPlace 13 = .ok (.ifCond .ne 25, 3) := by decide +kernel
theorem dX12_topPlace_16 : decode cX12_topPlace 16 = .ok (.aload_n 0, 1) := by decide +kernel
theorem dX12_topPlace_17 : decode cX12_topPlace 17 = .ok (.getfield 70, 3) := by decide +kernel
theorem dX12_topPlace_20 : decode cX12_topPlace 20 = .ok (.bipush 24, 2) := by decide +kernel
theorem dX12_topPlace_22 : decode cX12_topPlace 22 = .ok (.iload_n 3, 1) := by decide +kernel
theorem dX12_topPlace_23 : decode cX12_topPlace 23 = .ok (.iadd, 1) := by decide +kernel
theorem dX12_topPlace_24 : decode cX12_topPlace 24 = .ok (.iaload, 1) := by decide +kernel
theorem dX12_topPlace_25 : decode cX12_topPlace 25 = .ok (.aload_n 0, 1) := by decide +kernel
theorem dX12_topPlace_26 : decode cX12_topPlace 26 = .ok (.getfield 70, 3) := by decide +kernel
theorem dX12_topPlace_29 : decode cX12_topPlace 29 = .ok (.bipush 24, 2) := by decide +kernel
theorem dX12_topPlace_31 : decode cX12_topPlace 31 = .ok (.iload_n 2, 1) := by decide +kernel
theorem dX12_topPlace_32 : decode cX12_topPlace 32 = .ok (.iadd, 1) := by decide +kernel
theorem dX12_topPlace_33 : decode cX12_topPlace 33 = .ok (.iaload, 1) := by decide +kernel
theorem dX12_topPlace_34 : decode cX12_topPlace 34 = .ok (.isub, 1) := by decide +kernel
theorem dX12_topPlace_35 : decode cX12_topPlace 35 = .ok (.goto 35, 3) := by decide +kernel
theorem dX12_topPlace_38 : decode cX12_topPlace 38 = .ok (.iload_n 1, 1) := by decide +kernel
theorem dX12_topPlace_39 : decode cX12_topPlace 39 = .ok (.iconst 1, 1) := by decide +kernel
theorem dX12_topPlace_40 : decode cX12_topPlace 40 = .ok (.if_icmp .ne 19, 3) := by decide +kernel
theorem dX12_topPlace_43 : decode cX12_topPlace 43 = .ok (.aload_n 0, 1) := by decide +kernel
theorem dX12_topPlace_44 : decode cX12_topPlace 44 = .ok (.getfield 55, 3) := by decide +kernel
theorem dX12_topPlace_47 : decode cX12_topPlace 47 = .ok (.iload_n 3, 1) := by decide +kernel
theorem dX12_topPlace_48 : decode cX12_topPlace 48 = .ok (.iaload, 1) := by decide +kernel
theorem dX12_topPlace_49 : decode cX12_topPlace 49 = .ok (.aload_n 0, 1) := by decide +kernel
theorem dX12_topPlace_50 : decode cX12_topPlace 50 = .ok (.getfield 55, 3) := by decide +kernel
theorem dX12_topPlace_53 : decode cX12_topPlace 53 = .ok (.iload_n 2, 1) := by decide +kernel
theorem dX12_topPlace_54 : decode cX12_topPlace 54 = .ok (.iaload, 1) := by decide +kernel
theorem dX12_topPlace_55 : decode cX12_topPlace 55 = .ok (.isub, 1) := by decide +kernel
theorem dX12_topPlace_56 : decode cX12_topPlace 56 = .ok (.goto 14, 3) := by decide +kernel
theorem dX12_topPlace_59 : decode cX12_topPlace 59 = .ok (.aload_n 0, 1) := by decide +kernel
theorem dX12_topPlace_60 : decode cX12_topPlace 60 = .ok (.iload_n 2, 1) := by decide +kernel
theorem dX12_topPlace_61 : decode cX12_topPlace 61 = .ok (.invokevirtual 492, 3) := by decide +kernel
theorem dX12_topPlace_64 : decode cX12_topPlace 64 = .ok (.aload_n 0, 1) := by decide +kernel
theorem dX12_topPlace_65 : decode cX12_topPlace 65 = .ok (.iload_n 3, 1) := by decide +kernel
theorem dX12_topPlace_66 : decode cX12_topPlace 66 = .ok (.invokevirtual 492, 3) := by decide +kernel
theorem dX12_topPlace_69 : decode cX12_topPlace 69 = .ok (.isub, 1) := by decide +kernel
theorem dX12_topPlace_70 : decode cX12_topPlace 70 = .ok (.istore 4, 2) := by decide +kernel
theorem dX12_topPlace_72 : decode cX12_topPlace 72 = .ok (.iload 4, 2) := by decide +kernel
theorem dX12_topPlace_74 : decode cX12_topPlace 74 = .ok (.ifCond .le 7, 3) := by decide +kernel
theorem dX12_topPlace_77 : decode cX12_topPlace 77 = .ok (.iload_n 3, 1) := by decide +kernel
theorem dX12_topPlace_78 : decode cX12_topPlace 78 = .ok (.goto 4, 3) := by decide +kernel
theorem dX12_topPlace_81 : decode cX12_topPlace 81 = .ok (.iload_n 2, 1) := by decide +kernel
theorem dX12_topPlace_82 : decode cX12_topPlace 82 = .ok (.istore_n 2, 1) := by decide +kernel
theorem dX12_topPlace_83 : decode cX12_topPlace 83 = .ok (.iinc 3 1, 3) := by decide +kernel
theorem dX12_topPlace_86 : decode cX12_topPlace 86 = .ok (.goto (-82), 3) := by decide +kernel
theorem dX12_topPlace_89 : decode cX12_topPlace 89 = .ok (.iload_n 2, 1) := by decide +kernel
theorem dX12_topPlace_90 : decode cX12_topPlace 90 = .ok (.ireturn, 1) := by decide +kernel
theorem dX12_topRoad_0 : decode cX12_topRoad 0 = .ok (.iconst 0, 1) := by decide +kernel
theorem dX12_topRoad_1 : decode cX12_topRoad 1 = .ok (.istore_n 2, 1) := by decide +kernel
theorem dX12_topRoad_2 : decode cX12_topRoad 2 = .ok (.iconst 1, 1) := by decide +kernel
theorem dX12_topRoad_3 : decode cX12_topRoad 3 = .ok (.istore_n 3, 1) := by decide +kernel
theorem dX12_topRoad_4 : decode cX12_topRoad 4 = .ok (.iload_n 3, 1) := by decide +kernel
theorem dX12_topRoad_5 : decode cX12_topRoad 5 = .ok (.aload_n 0, 1) := by decide +kernel
theorem dX12_topRoad_6 : decode cX12_topRoad 6 = .ok (.getfield 291, 3) := by decide +kernel
theorem dX12_topRoad_9 : decode cX12_topRoad 9 = .ok (.if_icmp .ge 61, 3) := by decide +kernel
theorem dX12_topRoad_12 : decode cX12_topRoad 12 = .ok (.iload_n 1, 1) := by decide +kernel
theorem dX12_topRoad_13 : decode cX12_topRoad 13 = .ok (.ifCond .eq 19, 3) := by decide +kernel
theorem dX12_topRoad_16 : decode cX12_topRoad 16 = .ok (.aload_n 0, 1) := by decide +kernel
theorem dX12_topRoad_17 : decode cX12_topRoad 17 = .ok (.getfield 83, 3) := by decide +kernel
theorem dX12_topRoad_20 : decode cX12_topRoad 20 = .ok (.iload_n 3, 1) := by decide +kernel
theorem dX12_topRoad_21 : decode cX12_topRoad 21 = .ok (.iaload, 1) := by decide +kernel
theorem dX12_topRoad_22 : decode cX12_topRoad 22 = .ok (.aload_n 0, 1) := by decide +kernel
theorem dX12_topRoad_23 : decode cX12_topRoad 23 = .ok (.getfield 83, 3) := by decide +kernel
theorem dX12_topRoad_26 : decode cX12_topRoad 26 = .ok (.iload_n 2, 1) := by decide +kernel
theorem dX12_topRoad_27 : decode cX12_topRoad 27 = .ok (.iaload, 1) := by decide +kernel
theorem dX12_topRoad_28 : decode cX12_topRoad 28 = .ok (.isub, 1) := by decide +kernel
theorem dX12_topRoad_29 : decode cX12_topRoad 29 = .ok (.goto 22, 3) := by decide +kernel
theorem dX12_topRoad_32 : decode cX12_topRoad 32 = .ok (.aload_n 0, 1) := by decide +kernel
theorem dX12_topRoad_33 : decode cX12_topRoad 33 = .ok (.getfield 70, 3) := by decide +kernel
theorem dX12_topRoad_36 : decode cX12_topRoad 36 = .ok (.bipush 12, 2) := by decide +kernel
theorem dX12_topRoad_38 : decode cX12_topRoad 38 = .ok (.iload_n 3, 1) := by decide +kernel
theorem dX12_topRoad_39 : decode cX12_topRoad 39 = .ok (.iadd, 1) := by decide +kernel
theorem dX12_topRoad_40 : decode cX12_topRoad 40 = .ok (.iaload, 1) := by decide +kernel
theorem dX12_topRoad_41 : decode cX12_topRoad 41 = .ok (.aload_n 0, 1) := by decide +kernel
theorem dX12_topRoad_42 : decode cX12_topRoad 42 = .ok (.getfield 70, 3) := by decide +kernel
theorem dX12_topRoad_45 : decode cX12_topRoad 45 = .ok (.bipush 12, 2) := by decide +kernel
theorem dX12_topRoad_47 : decode cX12_topRoad 47 = .ok (.iload_n 2, 1) := by decide +kernel
theorem dX12_topRoad_48 : decode cX12_topRoad 48 = .ok (.iadd, 1) := by decide +kernel
theorem dX12_topRoad_49 : decode cX12_topRoad 49 = .ok (.iaload, 1) := by decide +kernel
theorem dX12_topRoad_50 : decode cX12_topRoad 50 = .ok (.isub, 1) := by decide +kernel
theorem dX12_topRoad_51 : decode cX12_topRoad 51 = .ok (.istore 4, 2) := by decide +kernel
theorem dX12_topRoad_53 : decode cX12_topRoad 53 = .ok (.iload 4, 2) := by decide +kernel
theorem dX12_topRoad_55 : decode cX12_topRoad 55 = .ok (.ifCond .le 7, 3) := by decide +kernel
theorem dX12_topRoad_58 : decode cX12_topRoad 58 = .ok (.iload_n 3, 1) := by decide +kernel
theorem dX12_topRoad_59 : decode cX12_topRoad 59 = .ok (.goto 4, 3) := by decide +kernel
theorem dX12_topRoad_62 : decode cX12_topRoad 62 = .ok (.iload_n 2, 1) := by decide +kernel
theorem dX12_topRoad_63 : decode cX12_topRoad 63 = .ok (.istore_n 2, 1) := by decide +kernel
theorem dX12_topRoad_64 : decode cX12_topRoad 64 = .ok (.iinc 3 1, 3) := by decide +kernel
theorem dX12_topRoad_67 : decode cX12_topRoad 67 = .ok (.goto (-63), 3) := by decide +kernel
theorem dX12_topRoad_70 : decode cX12_topRoad 70 = .ok (.iload_n 2, 1) := by decide +kernel
theorem dX12_topRoad_71 : decode cX12_topRoad 71 = .ok (.ireturn, 1) := by decide +kernel
theorem dX12_bridges_0 : decode cX12_bridges 0 = .ok (.iconst 0, 1) := by decide +kernel
theorem dX12_bridges_1 : decode cX12_bridges 1 = .ok (.istore_n 1, 1) := by decide +kernel
theorem dX12_bridges_2 : decode cX12_bridges 2 = .ok (.iconst 0, 1) := by decide +kernel
theorem dX12_bridges_3 : decode cX12_bridges 3 = .ok (.istore_n 2, 1) := by decide +kernel
theorem dX12_bridges_4 : decode cX12_bridges 4 = .ok (.iload_n 2, 1) := by decide +kernel
theorem dX12_bridges_5 : decode cX12_bridges 5 = .ok (.aload_n 0, 1) := by decide +kernel
theorem dX12_bridges_6 : decode cX12_bridges 6 = .ok (.getfield 291, 3) := by decide +kernel
theorem dX12_bridges_9 : decode cX12_bridges 9 = .ok (.if_icmp .ge 59, 3) := by decide +kernel
theorem dX12_bridges_12 : decode cX12_bridges 12 = .ok (.iload_n 1, 1) := by decide +kernel
theorem dX12_bridges_13 : decode cX12_bridges 13 = .ok (.aload_n 0, 1) := by decide +kernel
theorem dX12_bridges_14 : decode cX12_bridges 14 = .ok (.iload_n 2, 1) := by decide +kernel
theorem dX12_bridges_15 : decode cX12_bridges 15 = .ok (.invokevirtual 334, 3) := by decide +kernel
theorem dX12_bridges_18 : decode cX12_bridges 18 = .ok (.ifCond .ne 41, 3) := by decide +kernel
theorem dX12_bridges_21 : decode cX12_bridges 21 = .ok (.aload_n 0, 1) := by decide +kernel
theorem dX12_bridges_22 : decode cX12_bridges 22 = .ok (.aload_n 0, 1) := by decide +kernel
theorem dX12_bridges_23 : decode cX12_bridges 23 = .ok (.iload_n 2, 1) := by decide +kernel
theorem dX12_bridges_24 : decode cX12_bridges 24 = .ok (.iconst 0, 1) := by decide +kernel
theorem dX12_bridges_25 : decode cX12_bridges 25 = .ok (.invokevirtual 316, 3) := by decide +kernel
theorem dX12_bridges_28 : decode cX12_bridges 28 = .ok (.aload_n 0, 1) := by decide +kernel
theorem dX12_bridges_29 : decode cX12_bridges 29 = .ok (.invokevirtual 437, 3) := by decide +kernel
theorem dX12_bridges_32 : decode cX12_bridges 32 = .ok (.iconst 1, 1) := by decide +kernel
theorem dX12_bridges_33 : decode cX12_bridges 33 = .ok (.iload_n 2, 1) := by decide +kernel
theorem dX12_bridges_34 : decode cX12_bridges 34 = .ok (.ishl, 1) := by decide +kernel
theorem dX12_bridges_35 : decode cX12_bridges 35 = .ok (.iconst (-1), 1) := by decide +kernel
theorem dX12_bridges_36 : decode cX12_bridges 36 = .ok (.ixor, 1) := by decide +kernel
theorem dX12_bridges_37 : decode cX12_bridges 37 = .ok (.iand, 1) := by decide +kernel
theorem dX12_bridges_38 : decode cX12_bridges 38 = .ok (.invokevirtual 440, 3) := by decide +kernel
theorem dX12_bridges_41 : decode cX12_bridges 41 = .ok (.aload_n 0, 1) := by decide +kernel
theorem dX12_bridges_42 : decode cX12_bridges 42 = .ok (.iload_n 2, 1) := by decide +kernel
theorem dX12_bridges_43 : decode cX12_bridges 43 = .ok (.iconst 1, 1) := by decide +kernel
theorem dX12_bridges_44 : decode cX12_bridges 44 = .ok (.invokevirtual 316, 3) := by decide +kernel
theorem dX12_bridges_47 : decode cX12_bridges 47 = .ok (.invokestatic 246, 3) := by decide +kernel
theorem dX12_bridges_50 : decode cX12_bridges 50 = .ok (.ifCond .ne 9, 3) := by decide +kernel
theorem dX12_bridges_53 : decode cX12_bridges 53 = .ok (.iconst 1, 1) := by decide +kernel
theorem dX12_bridges_54 : decode cX12_bridges 54 = .ok (.iload_n 2, 1) := by decide +kernel
theorem dX12_bridges_55 : decode cX12_bridges 55 = .ok (.ishl, 1) := by decide +kernel
theorem dX12_bridges_56 : decode cX12_bridges 56 = .ok (.goto 4, 3) := by decide +kernel
theorem dX12_bridges_59 : decode cX12_bridges 59 = .ok (.iconst 0, 1) := by decide +kernel
theorem dX12_bridges_60 : decode cX12_bridges 60 = .ok (.ior, 1) := by decide +kernel
theorem dX12_bridges_61 : decode cX12_bridges 61 = .ok (.istore_n 1, 1) := by decide +kernel
theorem dX12_bridges_62 : decode cX12_bridges 62 = .ok (.iinc 2 1, 3) := by decide +kernel
theorem dX12_bridges_65 : decode cX12_bridges 65 = .ok (.goto (-61), 3) := by decide +kernel
theorem dX12_bridges_68 : decode cX12_bridges 68 = .ok (.iload_n 1, 1) := by decide +kernel
theorem dX12_bridges_69 : decode cX12_bridges 69 = .ok (.ireturn, 1) := by decide +kernel
theorem dX12_openLength_0 : decode cX12_openLength 0 = .ok (.iconst 0, 1) := by decide +kernel
theorem dX12_openLength_1 : decode cX12_openLength 1 = .ok (.istore_n 1, 1) := by decide +kernel
theorem dX12_openLength_2 : decode cX12_openLength 2 = .ok (.iconst 0, 1) := by decide +kernel
theorem dX12_openLength_3 : decode cX12_openLength 3 = .ok (.istore_n 2, 1) := by decide +kernel
theorem dX12_openLength_4 : decode cX12_openLength 4 = .ok (.iload_n 2, 1) := by decide +kernel
theorem dX12_openLength_5 : decode cX12_openLength 5 = .ok (.aload_n 0, 1) := by decide +kernel
theorem dX12_openLength_6 : decode cX12_openLength 6 = .ok (.getfield 291, 3) := by decide +kernel
theorem dX12_openLength_9 : decode cX12_openLength 9 = .ok (.if_icmp .ge 30, 3) := by decide +kernel
theorem dX12_openLength_12 : decode cX12_openLength 12 = .ok (.iload_n 1, 1) := by decide +kernel
theorem dX12_openLength_13 : decode cX12_openLength 13 = .ok (.aload_n 0, 1) := by decide +kernel
theorem dX12_openLength_14 : decode cX12_openLength 14 = .ok (.iload_n 2, 1) := by decide +kernel
theorem dX12_openLength_15 : decode cX12_openLength 15 = .ok (.invokevirtual 334, 3) := by decide +kernel
theorem dX12_openLength_18 : decode cX12_openLength 18 = .ok (.ifCond .eq 7, 3) := by decide +kernel
theorem dX12_openLength_21 : decode cX12_openLength 21 = .ok (.iconst 0, 1) := by decide +kernel
theorem dX12_openLength_22 : decode cX12_openLength 22 = .ok (.goto 9, 3) := by decide +kernel
theorem dX12_openLength_25 : decode cX12_openLength 25 = .ok (.aload_n 0, 1) := by decide +kernel
theorem dX12_openLength_26 : decode cX12_openLength 26 = .ok (.getfield 83, 3) := by decide +kernel
theorem dX12_openLength_29 : decode cX12_openLength 29 = .ok (.iload_n 2, 1) := by decide +kernel
theorem dX12_openLength_30 : decode cX12_openLength 30 = .ok (.iaload, 1) := by decide +kernel
theorem dX12_openLength_31 : decode cX12_openLength 31 = .ok (.iadd, 1) := by decide +kernel
theorem dX12_openLength_32 : decode cX12_openLength 32 = .ok (.istore_n 1, 1) := by decide +kernel
theorem dX12_openLength_33 : decode cX12_openLength 33 = .ok (.iinc 2 1, 3) := by decide +kernel
theorem dX12_openLength_36 : decode cX12_openLength 36 = .ok (.goto (-32), 3) := by decide +kernel
theorem dX12_openLength_39 : decode cX12_openLength 39 = .ok (.iload_n 1, 1) := by decide +kernel
theorem dX12_openLength_40 : decode cX12_openLength 40 = .ok (.ireturn, 1) := by decide +kernel
theorem dX12_parts_0 : decode cX12_parts 0 = .ok (.iconst 0, 1) := by decide +kernel
theorem dX12_parts_1 : decode cX12_parts 1 = .ok (.istore_n 1, 1) := by decide +kernel
theorem dX12_parts_2 : decode cX12_parts 2 = .ok (.iconst 0, 1) := by decide +kernel
theorem dX12_parts_3 : decode cX12_parts 3 = .ok (.istore_n 2, 1) := by decide +kernel
theorem dX12_parts_4 : decode cX12_parts 4 = .ok (.iconst 0, 1) := by decide +kernel
theorem dX12_parts_5 : decode cX12_parts 5 = .ok (.istore_n 3, 1) := by decide +kernel
theorem dX12_parts_6 : decode cX12_parts 6 = .ok (.iload_n 3, 1) := by decide +kernel
theorem dX12_parts_7 : decode cX12_parts 7 = .ok (.aload_n 0, 1) := by decide +kernel
theorem dX12_parts_8 : decode cX12_parts 8 = .ok (.getfield 288, 3) := by decide +kernel
theorem dX12_parts_11 : decode cX12_parts 11 = .ok (.if_icmp .ge 32, 3) := by decide +kernel
theorem dX12_parts_14 : decode cX12_parts 14 = .ok (.iload_n 2, 1) := by decide +kernel
theorem dX12_parts_15 : decode cX12_parts 15 = .ok (.iload_n 3, 1) := by decide +kernel
theorem dX12_parts_16 : decode cX12_parts 16 = .ok (.invokestatic 246, 3) := by decide +kernel
theorem dX12_parts_19 : decode cX12_parts 19 = .ok (.ifCond .ne 18, 3) := by decide +kernel
theorem dX12_parts_22 : decode cX12_parts 22 = .ok (.iload_n 2, 1) := by decide +kernel
theorem dX12_parts_23 : decode cX12_parts 23 = .ok (.aload_n 0, 1) := by decide +kernel
theorem dX12_parts_24 : decode cX12_parts 24 = .ok (.iload_n 3, 1) := by decide +kernel
theorem dX12_parts_25 : decode cX12_parts 25 = .ok (.aload_n 0, 1) := by decide +kernel
theorem dX12_parts_26 : decode cX12_parts 26 = .ok (.invokevirtual 437, 3) := by decide +kernel
theorem dX12_parts_29 : decode cX12_parts 29 = .ok (.invokevirtual 440, 3) := by decide +kernel
theorem dX12_parts_32 : decode cX12_parts 32 = .ok (.ior, 1) := by decide +kernel
theorem dX12_parts_33 : decode cX12_parts 33 = .ok (.istore_n 2, 1) := by decide +kernel
theorem dX12_parts_34 : decode cX12_parts 34 = .ok (.iinc 1 1, 3) := by decide +kernel
theorem dX12_parts_37 : decode cX12_parts 37 = .ok (.iinc 3 1, 3) := by decide +kernel
theorem dX12_parts_40 : decode cX12_parts 40 = .ok (.goto (-34), 3) := by decide +kernel
theorem dX12_parts_43 : decode cX12_parts 43 = .ok (.iload_n 1, 1) := by decide +kernel
theorem dX12_parts_44 : decode cX12_parts 44 = .ok (.ireturn, 1) := by decide +kernel
theorem dX12_most_0 : decode cX12_most 0 = .ok (.aload_n 0, 1) := by decide +kernel
theorem dX12_most_1 : decode cX12_most 1 = .ok (.getfield 288, 3) := by decide +kernel
theorem dX12_most_4 : decode cX12_most 4 = .ok (.ifCond .eq 13, 3) := by decide +kernel
theorem dX12_most_7 : decode cX12_most 7 = .ok (.iload_n 1, 1) := by decide +kernel
theorem dX12_most_8 : decode cX12_most 8 = .ok (.iconst 0, 1) := by decide +kernel
theorem dX12_most_9 : decode cX12_most 9 = .ok (.bipush 9, 2) := by decide +kernel
theorem dX12_most_11 : decode cX12_most 11 = .ok (.invokestatic 235, 3) := by decide +kernel
theorem dX12_most_14 : decode cX12_most 14 = .ok (.ifCond .ne 5, 3) := by decide +kernel
theorem dX12_most_17 : decode cX12_most 17 = .ok (.iconst (-1), 1) := by decide +kernel
theorem dX12_most_18 : decode cX12_most 18 = .ok (.ireturn, 1) := by decide +kernel
theorem dX12_most_19 : decode cX12_most 19 = .ok (.aload_n 0, 1) := by decide +kernel
theorem dX12_most_20 : decode cX12_most 20 = .ok (.invokevirtual 412, 3) := by decide +kernel
theorem dX12_most_23 : decode cX12_most 23 = .ok (.iload_n 1, 1) := by decide +kernel
theorem dX12_most_24 : decode cX12_most 24 = .ok (.tableswitch 88 2 9 #[48, 54, 88, 60, 65, 73, 78, 83], 48) := by decide +kernel
theorem dX12_most_72 : decode cX12_most 72 = .ok (.aload_n 0, 1) := by decide +kernel
theorem dX12_most_73 : decode cX12_most 73 = .ok (.iconst 1, 1) := by decide +kernel
theorem dX12_most_74 : decode cX12_most 74 = .ok (.invokevirtual 495, 3) := by decide +kernel
theorem dX12_most_77 : decode cX12_most 77 = .ok (.ireturn, 1) := by decide +kernel
theorem dX12_most_78 : decode cX12_most 78 = .ok (.aload_n 0, 1) := by decide +kernel
theorem dX12_most_79 : decode cX12_most 79 = .ok (.iconst 0, 1) := by decide +kernel
theorem dX12_most_80 : decode cX12_most 80 = .ok (.invokevirtual 495, 3) := by decide +kernel
theorem dX12_most_83 : decode cX12_most 83 = .ok (.ireturn, 1) := by decide +kernel
theorem dX12_most_84 : decode cX12_most 84 = .ok (.aload_n 0, 1) := by decide +kernel
theorem dX12_most_85 : decode cX12_most 85 = .ok (.invokevirtual 499, 3) := by decide +kernel
theorem dX12_most_88 : decode cX12_most 88 = .ok (.ireturn, 1) := by decide +kernel
theorem dX12_most_89 : decode cX12_most 89 = .ok (.aload_n 0, 1) := by decide +kernel
theorem dX12_most_90 : decode cX12_most 90 = .ok (.getfield 70, 3) := by decide +kernel
theorem dX12_most_93 : decode cX12_most 93 = .ok (.bipush 31, 2) := by decide +kernel
theorem dX12_most_95 : decode cX12_most 95 = .ok (.iaload, 1) := by decide +kernel
theorem dX12_most_96 : decode cX12_most 96 = .ok (.ireturn, 1) := by decide +kernel
theorem dX12_most_97 : decode cX12_most 97 = .ok (.aload_n 0, 1) := by decide +kernel
theorem dX12_most_98 : decode cX12_most 98 = .ok (.invokevirtual 364, 3) := by decide +kernel
theorem dX12_most_101 : decode cX12_most 101 = .ok (.ireturn, 1) := by decide +kernel
theorem dX12_most_102 : decode cX12_most 102 = .ok (.aload_n 0, 1) := by decide +kernel
theorem dX12_most_103 : decode cX12_most 103 = .ok (.invokevirtual 502, 3) := by decide +kernel
theorem dX12_most_106 : decode cX12_most 106 = .ok (.ireturn, 1) := by decide +kernel
theorem dX12_most_107 : decode cX12_most 107 = .ok (.aload_n 0, 1) := by decide +kernel
theorem dX12_most_108 : decode cX12_most 108 = .ok (.invokevirtual 505, 3) := by decide +kernel
theorem dX12_most_111 : decode cX12_most 111 = .ok (.ireturn, 1) := by decide +kernel
theorem dX12_most_112 : decode cX12_most 112 = .ok (.aload_n 0, 1) := by decide +kernel
theorem dX12_most_113 : decode cX12_most 113 = .ok (.iload_n 1, 1) := by decide +kernel
theorem dX12_most_114 : decode cX12_most 114 = .ok (.invokevirtual 508, 3) := by decide +kernel
