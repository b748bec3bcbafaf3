theorem dX11_fault_5 : decode cX11_fault 5 = .ok (.iconst 2, 1) := by decide +kernel
theorem dX11_fault_6 : decode cX11_fault 6 = .ok (.if_icmp .le 6, 3) := by decide +kernel
theorem dX11_fault_9 : decode cX11_fault 9 = .ok (.bipush (-2), 2) := by decide +kernel
theorem dX11_fault_11 : decode cX11_fault 11 = .ok (.ireturn, 1) := by decide +kernel
theorem dX11_fault_12 : decode cX11_fault 12 = .ok (.aload_n 0, 1) := by decide +kernel
theorem dX11_fault_13 : decode cX11_fault 13 = .ok (.iload_n 1, 1) := by decide +kernel
theorem dX11_fault_14 : decode cX11_fault 14 = .ok (.invokevirtual 121, 3) := by decide +kernel
theorem dX11_fault_17 : decode cX11_fault 17 = .ok (.ifCond .eq 7, 3) := by decide +kernel
theorem dX11_fault_20 : decode cX11_fault 20 = .ok (.iconst (-1), 1) := by decide +kernel
theorem dX11_fault_21 : decode cX11_fault 21 = .ok (.goto 10, 3) := by decide +kernel
theorem dX11_fault_24 : decode cX11_fault 24 = .ok (.aload_n 0, 1) := by decide +kernel
theorem dX11_fault_25 : decode cX11_fault 25 = .ok (.getfield 10, 3) := by decide +kernel
theorem dX11_fault_28 : decode cX11_fault 28 = .ok (.getfield 125, 3) := by decide +kernel
theorem dX11_fault_31 : decode cX11_fault 31 = .ok (.ireturn, 1) := by decide +kernel
theorem dX11_reads_0 : decode cX11_reads 0 = .ok (.iload_n 1, 1) := by decide +kernel
theorem dX11_reads_1 : decode cX11_reads 1 = .ok (.tableswitch 59 0 2 #[27, 39, 47], 27) := by decide +kernel
theorem dX11_reads_28 : decode cX11_reads 28 = .ok (.aload_n 0, 1) := by decide +kernel
theorem dX11_reads_29 : decode cX11_reads 29 = .ok (.getfield 23, 3) := by decide +kernel
theorem dX11_reads_32 : decode cX11_reads 32 = .ok (.aload_n 0, 1) := by decide +kernel
theorem dX11_reads_33 : decode cX11_reads 33 = .ok (.getfield 10, 3) := by decide +kernel
theorem dX11_reads_36 : decode cX11_reads 36 = .ok (.invokevirtual 128, 3) := by decide +kernel
theorem dX11_reads_39 : decode cX11_reads 39 = .ok (.ireturn, 1) := by decide +kernel
theorem dX11_reads_40 : decode cX11_reads 40 = .ok (.aload_n 0, 1) := by decide +kernel
theorem dX11_reads_41 : decode cX11_reads 41 = .ok (.getfield 31, 3) := by decide +kernel
theorem dX11_reads_44 : decode cX11_reads 44 = .ok (.invokevirtual 132, 3) := by decide +kernel
theorem dX11_reads_47 : decode cX11_reads 47 = .ok (.ireturn, 1) := by decide +kernel
theorem dX11_reads_48 : decode cX11_reads 48 = .ok (.aload_n 0, 1) := by decide +kernel
theorem dX11_reads_49 : decode cX11_reads 49 = .ok (.getfield 45, 3) := by decide +kernel
theorem dX11_reads_52 : decode cX11_reads 52 = .ok (.aload_n 0, 1) := by decide +kernel
theorem dX11_reads_53 : decode cX11_reads 53 = .ok (.getfield 10, 3) := by decide +kernel
theorem dX11_reads_56 : decode cX11_reads 56 = .ok (.invokevirtual 136, 3) := by decide +kernel
theorem dX11_reads_59 : decode cX11_reads 59 = .ok (.ireturn, 1) := by decide +kernel
theorem dX11_reads_60 : decode cX11_reads 60 = .ok (.iconst 0, 1) := by decide +kernel
theorem dX11_reads_61 : decode cX11_reads 61 = .ok (.ireturn, 1) := by decide +kernel
theorem dX11_text_0 : decode cX11_text 0 = .ok (.aload_n 0, 1) := by decide +kernel
theorem dX11_text_1 : decode cX11_text 1 = .ok (.iload_n 1, 1) := by decide +kernel
theorem dX11_text_2 : decode cX11_text 2 = .ok (.invokevirtual 121, 3) := by decide +kernel
theorem dX11_text_5 : decode cX11_text 5 = .ok (.ifCond .eq 11, 3) := by decide +kernel
theorem dX11_text_8 : decode cX11_text 8 = .ok (.aload_n 0, 1) := by decide +kernel
theorem dX11_text_9 : decode cX11_text 9 = .ok (.iload_n 1, 1) := by decide +kernel
theorem dX11_text_10 : decode cX11_text 10 = .ok (.invokevirtual 137, 3) := by decide +kernel
theorem dX11_text_13 : decode cX11_text 13 = .ok (.ifCond .ne 5, 3) := by decide +kernel
theorem dX11_text_16 : decode cX11_text 16 = .ok (.iconst (-1), 1) := by decide +kernel
theorem dX11_text_17 : decode cX11_text 17 = .ok (.ireturn, 1) := by decide +kernel
theorem dX11_text_18 : decode cX11_text 18 = .ok (.aload_n 0, 1) := by decide +kernel
theorem dX11_text_19 : decode cX11_text 19 = .ok (.getfield 10, 3) := by decide +kernel
theorem dX11_text_22 : decode cX11_text 22 = .ok (.iconst 0, 1) := by decide +kernel
theorem dX11_text_23 : decode cX11_text 23 = .ok (.putfield 114, 3) := by decide +kernel
theorem dX11_text_26 : decode cX11_text 26 = .ok (.iload_n 1, 1) := by decide +kernel
theorem dX11_text_27 : decode cX11_text 27 = .ok (.iconst 1, 1) := by decide +kernel
theorem dX11_text_28 : decode cX11_text 28 = .ok (.if_icmp .ne 25, 3) := by decide +kernel
theorem dX11_text_31 : decode cX11_text 31 = .ok (.aload_n 0, 1) := by decide +kernel
theorem dX11_text_32 : decode cX11_text 32 = .ok (.getfield 38, 3) := by decide +kernel
theorem dX11_text_35 : decode cX11_text 35 = .ok (.aload_n 0, 1) := by decide +kernel
theorem dX11_text_36 : decode cX11_text 36 = .ok (.getfield 31, 3) := by decide +kernel
theorem dX11_text_39 : decode cX11_text 39 = .ok (.getfield 140, 3) := by decide +kernel
theorem dX11_text_42 : decode cX11_text 42 = .ok (.aload_n 0, 1) := by decide +kernel
theorem dX11_text_43 : decode cX11_text 43 = .ok (.getfield 31, 3) := by decide +kernel
theorem dX11_text_46 : decode cX11_text 46 = .ok (.getfield 143, 3) := by decide +kernel
theorem dX11_text_49 : decode cX11_text 49 = .ok (.invokevirtual 144, 3) := by decide +kernel
theorem dX11_text_52 : decode cX11_text 52 = .ok (.ireturn, 1) := by decide +kernel
theorem dX11_text_53 : decode cX11_text 53 = .ok (.iload_n 1, 1) := by decide +kernel
theorem dX11_text_54 : decode cX11_text 54 = .ok (.iconst 2, 1) := by decide +kernel
theorem dX11_text_55 : decode cX11_text 55 = .ok (.if_icmp .ne 13, 3) := by decide +kernel
theorem dX11_text_58 : decode cX11_text 58 = .ok (.aload_n 0, 1) := by decide +kernel
theorem dX11_text_59 : decode cX11_text 59 = .ok (.getfield 45, 3) := by decide +kernel
theorem dX11_text_62 : decode cX11_text 62 = .ok (.invokevirtual 148, 3) := by decide +kernel
theorem dX11_text_65 : decode cX11_text 65 = .ok (.goto 7, 3) := by decide +kernel
theorem dX11_text_68 : decode cX11_text 68 = .ok (.aload_n 0, 1) := by decide +kernel
theorem dX11_text_69 : decode cX11_text 69 = .ok (.invokevirtual 151, 3) := by decide +kernel
theorem dX11_text_72 : decode cX11_text 72 = .ok (.ireturn, 1) := by decide +kernel
theorem dX11_hasRoomFor_0 : decode cX11_hasRoomFor 0 = .ok (.iload_n 1, 1) := by decide +kernel
theorem dX11_hasRoomFor_1 : decode cX11_hasRoomFor 1 = .ok (.iconst 1, 1) := by decide +kernel
theorem dX11_hasRoomFor_2 : decode cX11_hasRoomFor 2 = .ok (.if_icmp .ne 20, 3) := by decide +kernel
theorem dX11_hasRoomFor_5 : decode cX11_hasRoomFor 5 = .ok (.aload_n 0, 1) := by decide +kernel
theorem dX11_hasRoomFor_6 : decode cX11_hasRoomFor 6 = .ok (.getfield 38, 3) := by decide +kernel
theorem dX11_hasRoomFor_9 : decode cX11_hasRoomFor 9 = .ok (.getfield 154, 3) := by decide +kernel
theorem dX11_hasRoomFor_12 : decode cX11_hasRoomFor 12 = .ok (.iconst 4, 1) := by decide +kernel
theorem dX11_hasRoomFor_13 : decode cX11_hasRoomFor 13 = .ok (.if_icmp .ge 7, 3) := by decide +kernel
theorem dX11_hasRoomFor_16 : decode cX11_hasRoomFor 16 = .ok (.iconst 1, 1) := by decide +kernel
theorem dX11_hasRoomFor_17 : decode cX11_hasRoomFor 17 = .ok (.goto 4, 3) := by decide +kernel
theorem dX11_hasRoomFor_20 : decode cX11_hasRoomFor 20 = .ok (.iconst 0, 1) := by decide +kernel
theorem dX11_hasRoomFor_21 : decode cX11_hasRoomFor 21 = .ok (.ireturn, 1) := by decide +kernel
theorem dX11_hasRoomFor_22 : decode cX11_hasRoomFor 22 = .ok (.iload_n 1, 1) := by decide +kernel
theorem dX11_hasRoomFor_23 : decode cX11_hasRoomFor 23 = .ok (.iconst 2, 1) := by decide +kernel
theorem dX11_hasRoomFor_24 : decode cX11_hasRoomFor 24 = .ok (.if_icmp .ne 14, 3) := by decide +kernel
theorem dX11_hasRoomFor_27 : decode cX11_hasRoomFor 27 = .ok (.aload_n 0, 1) := by decide +kernel
theorem dX11_hasRoomFor_28 : decode cX11_hasRoomFor 28 = .ok (.getfield 45, 3) := by decide +kernel
theorem dX11_hasRoomFor_31 : decode cX11_hasRoomFor 31 = .ok (.getfield 157, 3) := by decide +kernel
theorem dX11_hasRoomFor_34 : decode cX11_hasRoomFor 34 = .ok (.iconst 4, 1) := by decide +kernel
theorem dX11_hasRoomFor_35 : decode cX11_hasRoomFor 35 = .ok (.if_icmp .ge 7, 3) := by decide +kernel
theorem dX11_hasRoomFor_38 : decode cX11_hasRoomFor 38 = .ok (.iconst 1, 1) := by decide +kernel
theorem dX11_hasRoomFor_39 : decode cX11_hasRoomFor 39 = .ok (.goto 4, 3) := by decide +kernel
theorem dX11_hasRoomFor_42 : decode cX11_hasRoomFor 42 = .ok (.iconst 0, 1) := by decide +kernel
theorem dX11_hasRoomFor_43 : decode cX11_hasRoomFor 43 = .ok (.ireturn, 1) := by decide +kernel
theorem dX11_beginCounty_0 : decode cX11_beginCounty 0 = .ok (.aload_n 0, 1) := by decide +kernel
theorem dX11_beginCounty_1 : decode cX11_beginCounty 1 = .ok (.getfield 19, 3) := by decide +kernel
theorem dX11_beginCounty_4 : decode cX11_beginCounty 4 = .ok (.aload_n 0, 1) := by decide +kernel
theorem dX11_beginCounty_5 : decode cX11_beginCounty 5 = .ok (.getfield 23, 3) := by decide +kernel
theorem dX11_beginCounty_8 : decode cX11_beginCounty 8 = .ok (.invokevirtual 158, 3) := by decide +kernel
theorem dX11_beginCounty_11 : decode cX11_beginCounty 11 = .ok (.aload_n 0, 1) := by decide +kernel
theorem dX11_beginCounty_12 : decode cX11_beginCounty 12 = .ok (.getfield 52, 3) := by decide +kernel
theorem dX11_beginCounty_15 : decode cX11_beginCounty 15 = .ok (.aload_n 0, 1) := by decide +kernel
theorem dX11_beginCounty_16 : decode cX11_beginCounty 16 = .ok (.getfield 19, 3) := by decide +kernel
theorem dX11_beginCounty_19 : decode cX11_beginCounty 19 = .ok (.invokevirtual 162, 3) := by decide +kernel
theorem dX11_beginCounty_22 : decode cX11_beginCounty 22 = .ok (.aload_n 0, 1) := by decide +kernel
theorem dX11_beginCounty_23 : decode cX11_beginCounty 23 = .ok (.getfield 71, 3) := by decide +kernel
theorem dX11_beginCounty_26 : decode cX11_beginCounty 26 = .ok (.invokevirtual 165, 3) := by decide +kernel
theorem dX11_beginCounty_29 : decode cX11_beginCounty 29 = .ok (.aload_n 0, 1) := by decide +kernel
theorem dX11_beginCounty_30 : decode cX11_beginCounty 30 = .ok (.getfield 89, 3) := by decide +kernel
theorem dX11_beginCounty_33 : decode cX11_beginCounty 33 = .ok (.iconst 0, 1) := by decide +kernel
theorem dX11_beginCounty_34 : decode cX11_beginCounty 34 = .ok (.putfield 168, 3) := by decide +kernel
theorem dX11_beginCounty_37 : decode cX11_beginCounty 37 = .ok (.aload_n 0, 1) := by decide +kernel
theorem dX11_beginCounty_38 : decode cX11_beginCounty 38 = .ok (.getfield 19, 3) := by decide +kernel
theorem dX11_beginCounty_41 : decode cX11_beginCounty 41 = .ok (.getfield 169, 3) := by decide +kernel
theorem dX11_beginCounty_44 : decode cX11_beginCounty 44 = .ok (.ireturn, 1) := by decide +kernel
theorem dX11_rule_0 : decode cX11_rule 0 = .ok (.aload_n 0, 1) := by decide +kernel
theorem dX11_rule_1 : decode cX11_rule 1 = .ok (.getfield 19, 3) := by decide +kernel
theorem dX11_rule_4 : decode cX11_rule 4 = .ok (.invokevirtual 172, 3) := by decide +kernel
theorem dX11_rule_7 : decode cX11_rule 7 = .ok (.ifCond .ne 5, 3) := by decide +kernel
theorem dX11_rule_10 : decode cX11_rule 10 = .ok (.iconst (-1), 1) := by decide +kernel
theorem dX11_rule_11 : decode cX11_rule 11 = .ok (.ireturn, 1) := by decide +kernel
theorem dX11_rule_12 : decode cX11_rule 12 = .ok (.iload_n 1, 1) := by decide +kernel
theorem dX11_rule_13 : decode cX11_rule 13 = .ok (.lookupswitch 43 #[(0, 27), (1, 35)], 27) := by decide +kernel
theorem dX11_rule_40 : decode cX11_rule 40 = .ok (.aload_n 0, 1) := by decide +kernel
theorem dX11_rule_41 : decode cX11_rule 41 = .ok (.getfield 19, 3) := by decide +kernel
theorem dX11_rule_44 : decode cX11_rule 44 = .ok (.getfield 175, 3) := by decide +kernel
theorem dX11_rule_47 : decode cX11_rule 47 = .ok (.ireturn, 1) := by decide +kernel
theorem dX11_rule_48 : decode cX11_rule 48 = .ok (.aload_n 0, 1) := by decide +kernel
theorem dX11_rule_49 : decode cX11_rule 49 = .ok (.getfield 52, 3) := by decide +kernel
theorem dX11_rule_52 : decode cX11_rule 52 = .ok (.getfield 178, 3) := by decide +kernel
theorem dX11_rule_55 : decode cX11_rule 55 = .ok (.ireturn, 1) := by decide +kernel
theorem dX11_rule_56 : decode cX11_rule 56 = .ok (.iconst (-1), 1) := by decide +kernel
theorem dX11_rule_57 : decode cX11_rule 57 = .ok (.ireturn, 1) := by decide +kernel
theorem dX11_road_0 : decode cX11_road 0 = .ok (.aload_n 0, 1) := by decide +kernel
theorem dX11_road_1 : decode cX11_road 1 = .ok (.getfield 19, 3) := by decide +kernel
theorem dX11_road_4 : decode cX11_road 4 = .ok (.iload_n 1, 1) := by decide +kernel
theorem dX11_road_5 : decode cX11_road 5 = .ok (.invokevirtual 181, 3) := by decide +kernel
theorem dX11_road_8 : decode cX11_road 8 = .ok (.ifCond .ne 5, 3) := by decide +kernel
theorem dX11_road_11 : decode cX11_road 11 = .ok (.iconst (-1), 1) := by decide +kernel
theorem dX11_road_12 : decode cX11_road 12 = .ok (.ireturn, 1) := by decide +kernel
theorem dX11_road_13 : decode cX11_road 13 = .ok (.iload_n 2, 1) := by decide +kernel
theorem dX11_road_14 : decode cX11_road 14 = .ok (.tableswitch 125 0 6 #[42, 52, 62, 72, 82, 103, 113], 42) := by decide +kernel
theorem dX11_road_56 : decode cX11_road 56 = .ok (.aload_n 0, 1) := by decide +kernel
theorem dX11_road_57 : decode cX11_road 57 = .ok (.getfield 19, 3) := by decide +kernel
theorem dX11_road_60 : decode cX11_road 60 = .ok (.getfield 184, 3) := by decide +kernel
theorem dX11_road_63 : decode cX11_road 63 = .ok (.iload_n 1, 1) := by decide +kernel
theorem dX11_road_64 : decode cX11_road 64 = .ok (.iaload, 1) := by decide +kernel
theorem dX11_road_65 : decode cX11_road 65 = .ok (.ireturn, 1) := by decide +kernel
theorem dX11_road_66 : decode cX11_road 66 = .ok (.aload_n 0, 1) := by decide +kernel
theorem dX11_road_67 : decode cX11_road 67 = .ok (.getfield 19, 3) := by decide +kernel
theorem dX11_road_70 : decode cX11_road 70 = .ok (.getfield 187, 3) := by decide +kernel
theorem dX11_road_73 : decode cX11_road 73 = .ok (.iload_n 1, 1) := by decide +kernel
theorem dX11_road_74 : decode cX11_road 74 = .ok (.iaload, 1) := by decide +kernel
theorem dX11_road_75 : decode cX11_road 75 = .ok (.ireturn, 1) := by decide +kernel
theorem dX11_road_76 : decode cX11_road 76 = .ok (.aload_n 0, 1) := by decide +kernel
theorem dX11_road_77 : decode cX11_road 77 = .ok (.getfield 19, 3) := by decide +kernel
theorem dX11_road_80 : decode cX11_road 80 = .ok (.getfield 190, 3) := by decide +kernel
theorem dX11_road_83 : decode cX11_road 83 = .ok (.iload_n 1, 1) := by decide +kernel
theorem dX11_road_84 : decode cX11_road 84 = .ok (.iaload, 1) := by decide +kernel
theorem dX11_road_85 : decode cX11_road 85 = .ok (.ireturn, 1) := by decide +kernel
theorem dX11_road_86 : decode cX11_road 86 = .ok (.aload_n 0, 1) := by decide +kernel
theorem dX11_road_87 : decode cX11_road 87 = .ok (.getfield 19, 3) := by decide +kernel
theorem dX11_road_90 : decode cX11_road 90 = .ok (.getfield 193, 3) := by decide +kernel
theorem dX11_road_93 : decode cX11_road 93 = .ok (.iload_n 1, 1) := by decide +kernel
theorem dX11_road_94 : decode cX11_road 94 = .ok (.iaload, 1) := by decide +kernel
theorem dX11_road_95 : decode cX11_road 95 = .ok (.ireturn, 1) := by decide +kernel
theorem dX11_road_96 : decode cX11_road 96 = .ok (.aload_n 0, 1) := by decide +kernel
theorem dX11_road_97 : decode cX11_road 97 = .ok (.getfield 64, 3) := by decide +kernel
theorem dX11_road_100 : decode cX11_road 100 = .ok (.aload_n 0, 1) := by decide +kernel
theorem dX11_road_101 : decode cX11_road 101 = .ok (.getfield 52, 3) := by decide +kernel
theorem dX11_road_104 : decode cX11_road 104 = .ok (.invokevirtual 196, 3) := by decide +kernel
theorem dX11_road_107 : decode cX11_road 107 = .ok (.aload_n 0, 1) := by decide +kernel
theorem dX11_road_108 : decode cX11_road 108 = .ok (.getfield 64, 3) := by decide +kernel
theorem dX11_road_111 : decode cX11_road 111 = .ok (.getfield 200, 3) := by decide +kernel
theorem dX11_road_114 : decode cX11_road 114 = .ok (.iload_n 1, 1) := by decide +kernel
theorem dX11_road_115 : decode cX11_road 115 = .ok (.iaload, 1) := by decide +kernel
theorem dX11_road_116 : decode cX11_road 116 = .ok (.ireturn, 1) := by decide +kernel
theorem dX11_road_117 : decode cX11_road 117 = .ok (.aload_n 0, 1) := by decide +kernel
theorem dX11_road_118 : decode cX11_road 118 = .ok (.getfield 52, 3) := by decide +kernel
theorem dX11_road_121 : decode cX11_road 121 = .ok (.getfield 203, 3) := by decide +kernel
theorem dX11_road_124 : decode cX11_road 124 = .ok (.iload_n 1, 1) := by decide +kernel
theorem dX11_road_125 : decode cX11_road 125 = .ok (.iaload, 1) := by decide +kernel
theorem dX11_road_126 : decode cX11_road 126 = .ok (.ireturn, 1) := by decide +kernel
theorem dX11_road_127 : decode cX11_road 127 = .ok (.aload_n 0, 1) := by decide +kernel
theorem dX11_road_128 : decode cX11_road 128 = .ok (.getfield 52, 3) := by decide +kernel
theorem dX11_road_131 : decode cX11_road 131 = .ok (.getfield 206, 3) := by decide +kernel
theorem dX11_road_134 : decode cX11_road 134 = .ok (.iload_n 1, 1) := by decide +kernel
theorem dX11_road_135 : decode cX11_road 135 = .ok (.ishr, 1) := by decide +kernel
theorem dX11_road_136 : decode cX11_road 136 = .ok (.iconst 1, 1) := by decide +kernel
theorem dX11_road_137 : decode cX11_road 137 = .ok (.iand, 1) := by decide +kernel
theorem dX11_road_138 : decode cX11_road 138 = .ok (.ireturn, 1) := by decide +kernel
theorem dX11_road_139 : decode cX11_road 139 = .ok (.iconst (-1), 1) := by decide +kernel
theorem dX11_road_140 : decode cX11_road 140 = .ok (.ireturn, 1) := by decide +kernel
theorem dX11_wheels_0 : decode cX11_wheels 0 = .ok (.aload_n 0, 1) := by decide +kernel
theorem dX11_wheels_1 : decode cX11_wheels 1 = .ok (.getfield 19, 3) := by decide +kernel
theorem dX11_wheels_4 : decode cX11_wheels 4 = .ok (.iload_n 1, 1) := by decide +kernel
theorem dX11_wheels_5 : decode cX11_wheels 5 = .ok (.invokevirtual 209, 3) := by decide +kernel
theorem dX11_wheels_8 : decode cX11_wheels 8 = .ok (.ifCond .eq 12, 3) := by decide +kernel
theorem dX11_wheels_11 : decode cX11_wheels 11 = .ok (.iload_n 2, 1) := by decide +kernel
theorem dX11_wheels_12 : decode cX11_wheels 12 = .ok (.ifCond .lt 8, 3) := by decide +kernel
theorem dX11_wheels_15 : decode cX11_wheels 15 = .ok (.iload_n 2, 1) := by decide +kernel
theorem dX11_wheels_16 : decode cX11_wheels 16 = .ok (.iconst 2, 1) := by decide +kernel
theorem dX11_wheels_17 : decode cX11_wheels 17 = .ok (.if_icmp .le 11, 3) := by decide +kernel
theorem dX11_wheels_20 : decode cX11_wheels 20 = .ok (.new 212, 3) := by decide +kernel
theorem dX11_wheels_23 : decode cX11_wheels 23 = .ok (.dup, 1) := by decide +kernel
theorem dX11_wheels_24 : decode cX11_wheels 24 = .ok (.invokespecial 214, 3) := by decide +kernel
theorem dX11_wheels_27 : decode cX11_wheels 27 = .ok (.athrow, 1) := by decide +kernel
theorem dX11_wheels_28 : decode cX11_wheels 28 = .ok (.iload_n 2, 1) := by decide +kernel
theorem dX11_wheels_29 : decode cX11_wheels 29 = .ok (.ifCond .ne 13, 3) := by decide +kernel
theorem dX11_wheels_32 : decode cX11_wheels 32 = .ok (.aload_n 0, 1) := by decide +kernel
theorem dX11_wheels_33 : decode cX11_wheels 33 = .ok (.getfield 52, 3) := by decide +kernel
theorem dX11_wheels_36 : decode cX11_wheels 36 = .ok (.getfield 215, 3) := by decide +kernel
theorem dX11_wheels_39 : decode cX11_wheels 39 = .ok (.iload_n 1, 1) := by decide +kernel
theorem dX11_wheels_40 : decode cX11_wheels 40 = .ok (.iaload, 1) := by decide +kernel
theorem dX11_wheels_41 : decode cX11_wheels 41 = .ok (.ireturn, 1) := by decide +kernel
theorem dX11_wheels_42 : decode cX11_wheels 42 = .ok (.iload_n 2, 1) := by decide +kernel
theorem dX11_wheels_43 : decode cX11_wheels 43 = .ok (.iconst 1, 1) := by decide +kernel
theorem dX11_wheels_44 : decode cX11_wheels 44 = .ok (.if_icmp .ne 15, 3) := by decide +kernel
theorem dX11_wheels_47 : decode cX11_wheels 47 = .ok (.aload_n 0, 1) := by decide +kernel
theorem dX11_wheels_48 : decode cX11_wheels 48 = .ok (.getfield 52, 3) := by decide +kernel
theorem dX11_wheels_51 : decode cX11_wheels 51 = .ok (.getfield 218, 3) := by decide +kernel
theorem dX11_wheels_54 : decode cX11_wheels 54 = .ok (.iload_n 1, 1) := by decide +kernel
theorem dX11_wheels_55 : decode cX11_wheels 55 = .ok (.iaload, 1) := by decide +kernel
theorem dX11_wheels_56 : decode cX11_wheels 56 = .ok (.goto 12, 3) := by decide +kernel
theorem dX11_wheels_59 : decode cX11_wheels 59 = .ok (.aload_n 0, 1) := by decide +kernel
theorem dX11_wheels_60 : decode cX11_wheels 60 = .ok (.getfield 52, 3) := by decide +kernel
theorem dX11_wheels_63 : decode cX11_wheels 63 = .ok (.getfield 221, 3) := by decide +kernel
theorem dX11_wheels_66 : decode cX11_wheels 66 = .ok (.iload_n 1, 1) := by decide +kernel
theorem dX11_wheels_67 : decode cX11_wheels 67 = .ok (.iaload, 1) := by decide +kernel
theorem dX11_wheels_68 : decode cX11_wheels 68 = .ok (.ireturn, 1) := by decide +kernel
theorem dX11_spot_0 : decode cX11_spot 0 = .ok (.aload_n 0, 1) := by decide +kernel
theorem dX11_spot_1 : decode cX11_spot 1 = .ok (.getfield 19, 3) := by decide +kernel
theorem dX11_spot_4 : decode cX11_spot 4 = .ok (.iload_n 1, 1) := by decide +kernel
theorem dX11_spot_5 : decode cX11_spot 5 = .ok (.invokevirtual 224, 3) := by decide +kernel
theorem dX11_spot_8 : decode cX11_spot 8 = .ok (.ifCond .ne 5, 3) := by decide +kernel
theorem dX11_spot_11 : decode cX11_spot 11 = .ok (.iconst (-1), 1) := by decide +kernel
theorem dX11_spot_12 : decode cX11_spot 12 = .ok (.ireturn, 1) := by decide +kernel
theorem dX11_spot_13 : decode cX11_spot 13 = .ok (.iload_n 2, 1) := by decide +kernel
theorem dX11_spot_14 : decode cX11_spot 14 = .ok (.lookupswitch 46 #[(0, 26), (1, 36)], 26) := by decide +kernel
theorem dX11_spot_40 : decode cX11_spot 40 = .ok (.aload_n 0, 1) := by decide +kernel
theorem dX11_spot_41 : decode cX11_spot 41 = .ok (.getfield 19, 3) := by decide +kernel
theorem dX11_spot_44 : decode cX11_spot 44 = .ok (.getfield 227, 3) := by decide +kernel
theorem dX11_spot_47 : decode cX11_spot 47 = .ok (.iload_n 1, 1) := by decide +kernel
theorem dX11_spot_48 : decode cX11_spot 48 = .ok (.iaload, 1) := by decide +kernel
theorem dX11_spot_49 : decode cX11_spot 49 = .ok (.ireturn, 1) := by decide +kernel
theorem dX11_spot_50 : decode cX11_spot 50 = .ok (.aload_n 0, 1) := by decide +kernel
theorem dX11_spot_51 : decode cX11_spot 51 = .ok (.getfield 52, 3) := by decide +kernel
theorem dX11_spot_54 : decode cX11_spot 54 = .ok (.getfield 230, 3) := by decide +kernel
theorem dX11_spot_57 : decode cX11_spot 57 = .ok (.iload_n 1, 1) := by decide +kernel
theorem dX11_spot_58 : decode cX11_spot 58 = .ok (.iaload, 1) := by decide +kernel
theorem dX11_spot_59 : decode cX11_spot 59 = .ok (.ireturn, 1) := by decide +kernel
theorem dX11_spot_60 : decode cX11_spot 60 = .ok (.iconst (-1), 1) := by decide +kernel
theorem dX11_spot_61 : decode cX11_spot 61 = .ok (.ireturn, 1) := by decide +kernel
theorem dX11_law_0 : decode cX11_law 0 = .ok (.iload_n 1, 1) := by decide +kernel
theorem dX11_law_1 : decode cX11_law 1 = .ok (.iconst (-1), 1) := by decide +kernel
theorem dX11_law_2 : decode cX11_law 2 = .ok (.if_icmp .lt 14, 3) := by decide +kernel
theorem dX11_law_5 : decode cX11_law 5 = .ok (.iload_n 1, 1) := by decide +kernel
theorem dX11_law_6 : decode cX11_law 6 = .ok (.aload_n 0, 1) := by decide +kernel
theorem dX11_law_7 : decode cX11_law 7 = .ok (.getfield 38, 3) := by decide +kernel
theorem dX11_law_10 : decode cX11_law 10 = .ok (.getfield 154, 3) := by decide +kernel
theorem dX11_law_13 : decode cX11_law 13 = .ok (.if_icmp .lt 5, 3) := by decide +kernel
theorem dX11_law_16 : decode cX11_law 16 = .ok (.iconst 0, 1) := by decide +kernel
theorem dX11_law_17 : decode cX11_law 17 = .ok (.ireturn, 1) := by decide +kernel
theorem dX11_law_18 : decode cX11_law 18 = .ok (.aload_n 0, 1) := by decide +kernel
theorem dX11_law_19 : decode cX11_law 19 = .ok (.getfield 38, 3) := by decide +kernel
theorem dX11_law_22 : decode cX11_law 22 = .ok (.iload_n 1, 1) := by decide +kernel
theorem dX11_law_23 : decode cX11_law 23 = .ok (.putfield 233, 3) := by decide +kernel
theorem dX11_law_26 : decode cX11_law 26 = .ok (.iconst 1, 1) := by decide +kernel
theorem dX11_law_27 : decode cX11_law 27 = .ok (.ireturn, 1) := by decide +kernel
theorem dX11_walked_0 : decode cX11_walked 0 = .ok (.aload_n 0, 1) := by decide +kernel
theorem dX11_walked_1 : decode cX11_walked 1 = .ok (.getfield 45, 3) := by decide +kernel
theorem dX11_walked_4 : decode cX11_walked 4 = .ok (.iload_n 1, 1) := by decide +kernel
theorem dX11_walked_5 : decode cX11_walked 5 = .ok (.invokevirtual 236, 3) := by decide +kernel
theorem dX11_walked_8 : decode cX11_walked 8 = .ok (.ifCond .ne 5, 3) := by decide +kernel
theorem dX11_walked_11 : decode cX11_walked 11 = .ok (.iconst (-1), 1) := by decide +kernel
theorem dX11_walked_12 : decode cX11_walked 12 = .ok (.ireturn, 1) := by decide +kernel
theorem dX11_walked_13 : decode cX11_walked 13 = .ok (.iload_n 2, 1) := by decide +kernel
theorem dX11_walked_14 : decode cX11_walked 14 = .ok (.iconst (-1), 1) := by decide +kernel
theorem dX11_walked_15 : decode cX11_walked 15 = .ok (.if_icmp .ne 15, 3) := by decide +kernel
theorem dX11_walked_18 : decode cX11_walked 18 = .ok (.aload_n 0, 1) := by decide +kernel
theorem dX11_walked_19 : decode cX11_walked 19 = .ok (.getfield 45, 3) := by decide +kernel
theorem dX11_walked_22 : decode cX11_walked 22 = .ok (.getfield 239, 3) := by decide +kernel
theorem dX11_walked_25 : decode cX11_walked 25 = .ok (.iload_n 1, 1) := by decide +kernel
theorem dX11_walked_26 : decode cX11_walked 26 = .ok (.iaload, 1) := by decide +kernel
theorem dX11_walked_27 : decode cX11_walked 27 = .ok (.goto 12, 3) := by decide +kernel
theorem dX11_walked_30 : decode cX11_walked 30 = .ok (.aload_n 0, 1) := by decide +kernel
theorem dX11_walked_31 : decode cX11_walked 31 = .ok (.getfield 45, 3) := by decide +kernel
theorem dX11_walked_34 : decode cX11_walked 34 = .ok (.iload_n 1, 1) := by decide +kernel
theorem dX11_walked_35 : decode cX11_walked 35 = .ok (.iload_n 2, 1) := by decide +kernel
theorem dX11_walked_36 : decode cX11_walked 36 = .ok (.invokevirtual 242, 3) := by decide +kernel
theorem dX11_walked_39 : decode cX11_walked 39 = .ok (.ireturn, 1) := by decide +kernel
theorem dX11_days_0 : decode cX11_days 0 = .ok (.aload_n 0, 1) := by decide +kernel
theorem dX11_days_1 : decode cX11_days 1 = .ok (.getfield 19, 3) := by decide +kernel
theorem dX11_days_4 : decode cX11_days 4 = .ok (.invokevirtual 172, 3) := by decide +kernel
theorem dX11_days_7 : decode cX11_days 7 = .ok (.ifCond .ne 9, 3) := by decide +kernel
theorem dX11_days_10 : decode cX11_days 10 = .ok (.aload_n 0, 1) := by decide +kernel
theorem dX11_days_11 : decode cX11_days 11 = .ok (.iconst 0, 1) := by decide +kernel
theorem dX11_days_12 : decode cX11_days 12 = .ok (.invokevirtual 246, 3) := by decide +kernel
theorem dX11_days_15 : decode cX11_days 15 = .ok (.ireturn, 1) := by decide +kernel
theorem dX11_days_16 : decode cX11_days 16 = .ok (.iload_n 1, 1) := by decide +kernel
theorem dX11_days_17 : decode cX11_days 17 = .ok (.iconst 1, 1) := by decide +kernel
theorem dX11_days_18 : decode cX11_days 18 = .ok (.if_icmp .lt 9, 3) := by decide +kernel
theorem dX11_days_21 : decode cX11_days 21 = .ok (.iload_n 1, 1) := by decide +kernel
theorem dX11_days_22 : decode cX11_days 22 = .ok (.bipush 60, 2) := by decide +kernel
theorem dX11_days_24 : decode cX11_days 24 = .ok (.if_icmp .le 9, 3) := by decide +kernel
theorem dX11_days_27 : decode cX11_days 27 = .ok (.aload_n 0, 1) := by decide +kernel
theorem dX11_days_28 : decode cX11_days 28 = .ok (.iconst 1, 1) := by decide +kernel
theorem dX11_days_29 : decode cX11_days 29 = .ok (.invokevirtual 246, 3) := by decide +kernel
theorem dX11_days_32 : decode cX11_days 32 = .ok (.ireturn, 1) := by decide +kernel
theorem dX11_days_33 : decode cX11_days 33 = .ok (.aload_n 0, 1) := by decide +kernel
theorem dX11_days_34 : decode cX11_days 34 = .ok (.getfield 52, 3) := by decide +kernel
theorem dX11_days_37 : decode cX11_days 37 = .ok (.getfield 249, 3) := by decide +kernel
theorem dX11_days_40 : decode cX11_days 40 = .ok (.iload_n 1, 1) := by decide +kernel
theorem dX11_days_41 : decode cX11_days 41 = .ok (.iadd, 1) := by decide +kernel
theorem dX11_days_42 : decode cX11_days 42 = .ok (.sipush 999, 3) := by decide +kernel
theorem dX11_days_45 : decode cX11_days 45 = .ok (.if_icmp .le 9, 3) := by decide +kernel
theorem dX11_days_48 : decode cX11_days 48 = .ok (.aload_n 0, 1) := by decide +kernel
theorem dX11_days_49 : decode cX11_days 49 = .ok (.iconst 4, 1) := by decide +kernel
theorem dX11_days_50 : decode cX11_days 50 = .ok (.invokevirtual 246, 3) := by decide +kernel
theorem dX11_days_53 : decode cX11_days 53 = .ok (.ireturn, 1) := by decide +kernel
theorem dX11_days_54 : decode cX11_days 54 = .ok (.iconst 0, 1) := by decide +kernel
theorem dX11_days_55 : decode cX11_days 55 = .ok (.istore_n 2, 1) := by decide +kernel
theorem dX11_days_56 : decode cX11_days 56 = .ok (.iload_n 2, 1) := by decide +kernel
theorem dX11_days_57 : decode cX11_days 57 = .ok (.iload_n 1, 1) := by decide +kernel
theorem dX11_days_58 : decode cX11_days 58 = .ok (.if_icmp .ge 24, 3) := by decide +kernel
theorem dX11_days_61 : decode cX11_days 61 = .ok (.aload_n 0, 1) := by decide +kernel
theorem dX11_days_62 : decode cX11_days 62 = .ok (.getfield 71, 3) := by decide +kernel
theorem dX11_days_65 : decode cX11_days 65 = .ok (.aload_n 0, 1) := by decide +kernel
theorem dX11_days_66 : decode cX11_days 66 = .ok (.getfield 52, 3) := by decide +kernel
theorem dX11_days_69 : decode cX11_days 69 = .ok (.invokevirtual 252, 3) := by decide +kernel
theorem dX11_days_72 : decode cX11_days 72 = .ok (.aload_n 0, 1) := by decide +kernel
theorem dX11_days_73 : decode cX11_days 73 = .ok (.invokevirtual 255, 3) := by decide +kernel
theorem dX11_days_76 : decode cX11_days 76 = .ok (.iinc 2 1, 3) := by decide +kernel
theorem dX11_days_79 : decode cX11_days 79 = .ok (.goto (-23), 3) := by decide +kernel
theorem dX11_days_82 : decode cX11_days 82 = .ok (.aload_n 0, 1) := by decide +kernel
theorem dX11_days_83 : decode cX11_days 83 = .ok (.getfield 52, 3) := by decide +kernel
theorem dX11_days_86 : decode cX11_days 86 = .ok (.getfield 249, 3) := by decide +kernel
theorem dX11_days_89 : decode cX11_days 89 = .ok (.ireturn, 1) := by decide +kernel
theorem dX11_passDay_0 : decode cX11_passDay 0 = .ok (.aload_n 0, 1) := by decide +kernel
theorem dX11_passDay_1 : decode cX11_passDay 1 = .ok (.getfield 64, 3) := by decide +kernel
theorem dX11_passDay_4 : decode cX11_passDay 4 = .ok (.aload_n 0, 1) := by decide +kernel
theorem dX11_passDay_5 : decode cX11_passDay 5 = .ok (.getfield 52, 3) := by decide +kernel
theorem dX11_passDay_8 : decode cX11_passDay 8 = .ok (.invokevirtual 258, 3) := by decide +kernel
theorem dX11_passDay_11 : decode cX11_passDay 11 = .ok (.istore_n 1, 1) := by decide +kernel
theorem dX11_passDay_12 : decode cX11_passDay 12 = .ok (.aload_n 0, 1) := by decide +kernel
theorem dX11_passDay_13 : decode cX11_passDay 13 = .ok (.getfield 71, 3) := by decide +kernel
theorem dX11_passDay_16 : decode cX11_passDay 16 = .ok (.aload_n 0, 1) := by decide +kernel
theorem dX11_passDay_17 : decode cX11_passDay 17 = .ok (.getfield 52, 3) := by decide +kernel
theorem dX11_passDay_20 : decode cX11_passDay 20 = .ok (.getfield 249, 3) := by decide +kernel
theorem dX11_passDay_23 : decode cX11_passDay 23 = .ok (.iload_n 1, 1) := by decide +kernel
theorem dX11_passDay_24 : decode cX11_passDay 24 = .ok (.aload_n 0, 1) := by decide +kernel
theorem dX11_passDay_25 : decode cX11_passDay 25 = .ok (.getfield 52, 3) := by decide +kernel
theorem dX11_passDay_28 : decode cX11_passDay 28 = .ok (.invokevirtual 262, 3) := by decide +kernel
theorem dX11_passDay_31 : decode cX11_passDay 31 = .ok (.aload_n 0, 1) := by decide +kernel
theorem dX11_passDay_32 : decode cX11_passDay 32 = .ok (.getfield 52, 3) := by decide +kernel
theorem dX11_passDay_35 : decode cX11_passDay 35 = .ok (.getfield 206, 3) := by decide +kernel
theorem dX11_passDay_38 : decode cX11_passDay 38 = .ok (.invokevirtual 265, 3) := by decide +kernel
theorem dX11_passDay_41 : decode cX11_passDay 41 = .ok (.return_, 1) := by decide +kernel
theorem dX11_refuse_0 : decode cX11_refuse 0 = .ok (.aload_n 0, 1) := by decide +kernel
theorem dX11_refuse_1 : decode cX11_refuse 1 = .ok (.getfield 102, 3) := by decide +kernel
theorem dX11_refuse_4 : decode cX11_refuse 4 = .ok (.iload_n 1, 1) := by decide +kernel
theorem dX11_refuse_5 : decode cX11_refuse 5 = .ok (.dup2, 1) := by decide +kernel
theorem dX11_refuse_6 : decode cX11_refuse 6 = .ok (.iaload, 1) := by decide +kernel
theorem dX11_refuse_7 : decode cX11_refuse 7 = .ok (.iconst 1, 1) := by decide +kernel
theorem dX11_refuse_8 : decode cX11_refuse 8 = .ok (.iadd, 1) := by decide +kernel
theorem dX11_refuse_9 : decode cX11_refuse 9 = .ok (.iastore, 1) := by decide +kernel
theorem dX11_refuse_10 : decode cX11_refuse 10 = .ok (.iconst (-1), 1) := by decide +kernel
theorem dX11_refuse_11 : decode cX11_refuse 11 = .ok (.ireturn, 1) := by decide +kernel
theorem dX11_puts_0 : decode cX11_puts 0 = .ok (.aload_n 0, 1) := by decide +kernel
theorem dX11_puts_1 : decode cX11_puts 1 = .ok (.getfield 19, 3) := by decide +kernel
theorem dX11_puts_4 : decode cX11_puts 4 = .ok (.iload_n 1, 1) := by decide +kernel
theorem dX11_puts_5 : decode cX11_puts 5 = .ok (.invokevirtual 209, 3) := by decide +kernel
theorem dX11_puts_8 : decode cX11_puts 8 = .ok (.ifCond .ne 9, 3) := by decide +kernel
theorem dX11_puts_11 : decode cX11_puts 11 = .ok (.aload_n 0, 1) := by decide +kernel
theorem dX11_puts_12 : decode cX11_puts 12 = .ok (.iconst 0, 1) := by decide +kernel
theorem dX11_puts_13 : decode cX11_puts 13 = .ok (.invokevirtual 246, 3) := by decide +kernel
theorem dX11_puts_16 : decode cX11_puts 16 = .ok (.ireturn, 1) := by decide +kernel
theorem dX11_puts_17 : decode cX11_puts 17 = .ok (.aload_n 0, 1) := by decide +kernel
theorem dX11_puts_18 : decode cX11_puts 18 = .ok (.getfield 45, 3) := by decide +kernel
theorem dX11_puts_21 : decode cX11_puts 21 = .ok (.iload_n 2, 1) := by decide +kernel
theorem dX11_puts_22 : decode cX11_puts 22 = .ok (.invokevirtual 236, 3) := by decide +kernel
theorem dX11_puts_25 : decode cX11_puts 25 = .ok (.ifCond .ne 9, 3) := by decide +kernel
theorem dX11_puts_28 : decode cX11_puts 28 = .ok (.aload_n 0, 1) := by decide +kernel
theorem dX11_puts_29 : decode cX11_puts 29 = .ok (.iconst 1, 1) := by decide +kernel
theorem dX11_puts_30 : decode cX11_puts 30 = .ok (.invokevirtual 246, 3) := by decide +kernel
theorem dX11_puts_33 : decode cX11_puts 33 = .ok (.ireturn, 1) := by decide +kernel
theorem dX11_puts_34 : decode cX11_puts 34 = .ok (.aload_n 0, 1) := by decide +kernel
theorem dX11_puts_35 : decode cX11_puts 35 = .ok (.getfield 45, 3) := by decide +kernel
theorem dX11_puts_38 : decode cX11_puts 38 = .ok (.iload_n 2, 1) := by decide +kernel
theorem dX11_puts_39 : decode cX11_puts 39 = .ok (.iconst 0, 1) := by decide +kernel
theorem dX11_puts_40 : decode cX11_puts 40 = .ok (.invokevirtual 242, 3) := by decide +kernel
theorem dX11_puts_43 : decode cX11_puts 43 = .ok (.aload_n 0, 1) := by decide +kernel
theorem dX11_puts_44 : decode cX11_puts 44 = .ok (.getfield 52, 3) := by decide +kernel
theorem dX11_puts_47 : decode cX11_puts 47 = .ok (.getfield 215, 3) := by decide +kernel
theorem dX11_puts_50 : decode cX11_puts 50 = .ok (.iload_n 1, 1) := by decide +kernel
theorem dX11_puts_51 : decode cX11_puts 51 = .ok (.iaload, 1) := by decide +kernel
theorem dX11_puts_52 : decode cX11_puts 52 = .ok (.if_icmp .eq 9, 3) := by decide +kernel
theorem dX11_puts_55 : decode cX11_puts 55 = .ok (.aload_n 0, 1) := by decide +kernel
theorem dX11_puts_56 : decode cX11_puts 56 = .ok (.iconst 2, 1) := by decide +kernel
theorem dX11_puts_57 : decode cX11_puts 57 = .ok (.invokevirtual 246, 3) := by decide +kernel
theorem dX11_puts_60 : decode cX11_puts 60 = .ok (.ireturn, 1) := by decide +kernel
theorem dX11_puts_61 : decode cX11_puts 61 = .ok (.aload_n 0, 1) := by decide +kernel
theorem dX11_puts_62 : decode cX11_puts 62 = .ok (.getfield 52, 3) := by decide +kernel
theorem dX11_puts_65 : decode cX11_puts 65 = .ok (.getfield 178, 3) := by decide +kernel
theorem dX11_puts_68 : decode cX11_puts 68 = .ok (.iconst 3, 1) := by decide +kernel
theorem dX11_puts_69 : decode cX11_puts 69 = .ok (.if_icmp .ge 9, 3) := by decide +kernel
theorem dX11_puts_72 : decode cX11_puts 72 = .ok (.aload_n 0, 1) := by decide +kernel
theorem dX11_puts_73 : decode cX11_puts 73 = .ok (.iconst 3, 1) := by decide +kernel
theorem dX11_puts_74 : decode cX11_puts 74 = .ok (.invokevirtual 246, 3) := by decide +kernel
theorem dX11_puts_77 : decode cX11_puts 77 = .ok (.ireturn, 1) := by decide +kernel
theorem dX11_puts_78 : decode cX11_puts 78 = .ok (.aload_n 0, 1) := by decide +kernel
theorem dX11_puts_79 : decode cX11_puts 79 = .ok (.getfield 71, 3) := by decide +kernel
theorem dX11_puts_82 : decode cX11_puts 82 = .ok (.aload_n 0, 1) := by decide +kernel
theorem dX11_puts_83 : decode cX11_puts 83 = .ok (.getfield 52, 3) := by decide +kernel
theorem dX11_puts_86 : decode cX11_puts 86 = .ok (.invokevirtual 252, 3) := by decide +kernel
theorem dX11_puts_89 : decode cX11_puts 89 = .ok (.aload_n 0, 1) := by decide +kernel
theorem dX11_puts_90 : decode cX11_puts 90 = .ok (.getfield 52, 3) := by decide +kernel
theorem dX11_puts_93 : decode cX11_puts 93 = .ok (.dup, 1) := by decide +kernel
theorem dX11_puts_94 : decode cX11_puts 94 = .ok (.getfield 178, 3) := by decide +kernel
theorem dX11_puts_97 : decode cX11_puts 97 = .ok (.iconst 3, 1) := by decide +kernel
theorem dX11_puts_98 : decode cX11_puts 98 = .ok (.isub, 1) := by decide +kernel
theorem dX11_puts_99 : decode cX11_puts 99 = .ok (.putfield 178, 3) := by decide +kernel
theorem dX11_puts_102 : decode cX11_puts 102 = .ok (.aload_n 0, 1) := by decide +kernel
theorem dX11_puts_103 : decode cX11_puts 103 = .ok (.getfield 52, 3) := by decide +kernel
theorem dX11_puts_106 : decode cX11_puts 106 = .ok (.iload_n 1, 1) := by decide +kernel
theorem dX11_puts_107 : decode cX11_puts 107 = .ok (.iload_n 2, 1) := by decide +kernel
theorem dX11_puts_108 : decode cX11_puts 108 = .ok (.invokevirtual 269, 3) := by decide +kernel
theorem dX11_puts_111 : decode cX11_puts 111 = .ok (.aload_n 0, 1) := by decide +kernel
theorem dX11_puts_112 : decode cX11_puts 112 = .ok (.getfield 45, 3) := by decide +kernel
theorem dX11_puts_115 : decode cX11_puts 115 = .ok (.getfield 239, 3) := by decide +kernel
theorem dX11_puts_118 : decode cX11_puts 118 = .ok (.iload_n 2, 1) := by decide +kernel
theorem dX11_puts_119 : decode cX11_puts 119 = .ok (.iaload, 1) := by decide +kernel
theorem dX11_puts_120 : decode cX11_puts 120 = .ok (.ireturn, 1) := by decide +kernel
theorem dX11_carries_0 : decode cX11_carries 0 = .ok (.aload_n 0, 1) := by decide +kernel
theorem dX11_carries_1 : decode cX11_carries 1 = .ok (.getfield 19, 3) := by decide +kernel
theorem dX11_carries_4 : decode cX11_carries 4 = .ok (.iload_n 1, 1) := by decide +kernel
theorem dX11_carries_5 : decode cX11_carries 5 = .ok (.invokevirtual 209, 3) := by decide +kernel
theorem dX11_carries_8 : decode cX11_carries 8 = .ok (.ifCond .ne 9, 3) := by decide +kernel
theorem dX11_carries_11 : decode cX11_carries 11 = .ok (.aload_n 0, 1) := by decide +kernel
theorem dX11_carries_12 : decode cX11_carries 12 = .ok (.iconst 0, 1) := by decide +kernel
theorem dX11_carries_13 : decode cX11_carries 13 = .ok (.invokevirtual 246, 3) := by decide +kernel
theorem dX11_carries_16 : decode cX11_carries 16 = .ok (.ireturn, 1) := by decide +kernel
theorem dX11_carries_17 : decode cX11_carries 17 = .ok (.aload_n 0, 1) := by decide +kernel
theorem dX11_carries_18 : decode cX11_carries 18 = .ok (.getfield 19, 3) := by decide +kernel
theorem dX11_carries_21 : decode cX11_carries 21 = .ok (.iload_n 2, 1) := by decide +kernel
theorem dX11_carries_22 : decode cX11_carries 22 = .ok (.invokevirtual 224, 3) := by decide +kernel
theorem dX11_carries_25 : decode cX11_carries 25 = .ok (.ifCond .ne 9, 3) := by decide +kernel
theorem dX11_carries_28 : decode cX11_carries 28 = .ok (.aload_n 0, 1) := by decide +kernel
theorem dX11_carries_29 : decode cX11_carries 29 = .ok (.iconst 1, 1) := by decide +kernel
theorem dX11_carries_30 : decode cX11_carries 30 = .ok (.invokevirtual 246, 3) := by decide +kernel
theorem dX11_carries_33 : decode cX11_carries 33 = .ok (.ireturn, 1) := by decide +kernel
theorem dX11_carries_34 : decode cX11_carries 34 = .ok (.aload_n 0, 1) := by decide +kernel
theorem dX11_carries_35 : decode cX11_carries 35 = .ok (.getfield 52, 3) := by decide +kernel
theorem dX11_carries_38 : decode cX11_carries 38 = .ok (.getfield 215, 3) := by decide +kernel
theorem dX11_carries_41 : decode cX11_carries 41 = .ok (.iload_n 1, 1) := by decide +kernel
theorem dX11_carries_42 : decode cX11_carries 42 = .ok (.iaload, 1) := by decide +kernel
theorem dX11_carries_43 : decode cX11_carries 43 = .ok (.istore_n 3, 1) := by decide +kernel
theorem dX11_carries_44 : decode cX11_carries 44 = .ok (.iload_n 3, 1) := by decide +kernel
theorem dX11_carries_45 : decode cX11_carries 45 = .ok (.iload_n 2, 1) := by decide +kernel
theorem dX11_carries_46 : decode cX11_carries 46 = .ok (.if_icmp .ne 9, 3) := by decide +kernel
theorem dX11_carries_49 : decode cX11_carries 49 = .ok (.aload_n 0, 1) := by decide +kernel
theorem dX11_carries_50 : decode cX11_carries 50 = .ok (.iconst 2, 1) := by decide +kernel
theorem dX11_carries_51 : decode cX11_carries 51 = .ok (.invokevirtual 246, 3) := by decide +kernel
theorem dX11_carries_54 : decode cX11_carries 54 = .ok (.ireturn, 1) := by decide +kernel
theorem dX11_carries_55 : decode cX11_carries 55 = .ok (.aload_n 0, 1) := by decide +kernel
theorem dX11_carries_56 : decode cX11_carries 56 = .ok (.getfield 52, 3) := by decide +kernel
theorem dX11_carries_59 : decode cX11_carries 59 = .ok (.getfield 178, 3) := by decide +kernel
theorem dX11_carries_62 : decode cX11_carries 62 = .ok (.iconst 2, 1) := by decide +kernel
theorem dX11_carries_63 : decode cX11_carries 63 = .ok (.if_icmp .ge 9, 3) := by decide +kernel
theorem dX11_carries_66 : decode cX11_carries 66 = .ok (.aload_n 0, 1) := by decide +kernel
theorem dX11_carries_67 : decode cX11_carries 67 = .ok (.iconst 3, 1) := by decide +kernel
theorem dX11_carries_68 : decode cX11_carries 68 = .ok (.invokevirtual 246, 3) := by decide +kernel
theorem dX11_carries_71 : decode cX11_carries 71 = .ok (.ireturn, 1) := by decide +kernel
theorem dX11_carries_72 : decode cX11_carries 72 = .ok (.aload_n 0, 1) := by decide +kernel
theorem dX11_carries_73 : decode cX11_carries 73 = .ok (.getfield 71, 3) := by decide +kernel
theorem dX11_carries_76 : decode cX11_carries 76 = .ok (.aload_n 0, 1) := by decide +kernel
theorem dX11_carries_77 : decode cX11_carries 77 = .ok (.getfield 52, 3) := by decide +kernel
theorem dX11_carries_80 : decode cX11_carries 80 = .ok (.invokevirtual 252, 3) := by decide +kernel
theorem dX11_carries_83 : decode cX11_carries 83 = .ok (.aload_n 0, 1) := by decide +kernel
theorem dX11_carries_84 : decode cX11_carries 84 = .ok (.getfield 52, 3) := by decide +kernel
theorem dX11_carries_87 : decode cX11_carries 87 = .ok (.dup, 1) := by decide +kernel
theorem dX11_carries_88 : decode cX11_carries 88 = .ok (.getfield 178, 3) := by decide +kernel
theorem dX11_carries_91 : decode cX11_carries 91 = .ok (.iconst 2, 1) := by decide +kernel
theorem dX11_carries_92 : decode cX11_carries 92 = .ok (.isub, 1) := by decide +kernel
theorem dX11_carries_93 : decode cX11_carries 93 = .ok (.putfield 178, 3) := by decide +kernel
theorem dX11_carries_96 : decode cX11_carries 96 = .ok (.aload_n 0, 1) := by decide +kernel
theorem dX11_carries_97 : decode cX11_carries 97 = .ok (.getfield 52, 3) := by decide +kernel
theorem dX11_carries_100 : decode cX11_carries 100 = .ok (.getfield 215, 3) := by decide +kernel
theorem dX11_carries_103 : decode cX11_carries 103 = .ok (.iload_n 1, 1) := by decide +kernel
theorem dX11_carries_104 : decode cX11_carries 104 = .ok (.iload_n 2, 1) := by decide +kernel
theorem dX11_carries_105 : decode cX11_carries 105 = .ok (.iastore, 1) := by decide +kernel
theorem dX11_carries_106 : decode cX11_carries 106 = .ok (.aload_n 0, 1) := by decide +kernel
theorem dX11_carries_107 : decode cX11_carries 107 = .ok (.getfield 52, 3) := by decide +kernel
theorem dX11_carries_110 : decode cX11_carries 110 = .ok (.iload_n 1, 1) := by decide +kernel
theorem dX11_carries_111 : decode cX11_carries 111 = .ok (.invokevirtual 273, 3) := by decide +kernel
theorem dX11_carries_114 : decode cX11_carries 114 = .ok (.iload_n 3, 1) := by decide +kernel
theorem dX11_carries_115 : decode cX11_carries 115 = .ok (.ireturn, 1) := by decide +kernel
theorem dX11_bars_0 : decode cX11_bars 0 = .ok (.aload_n 0, 1) := by decide +kernel
theorem dX11_bars_1 : decode cX11_bars 1 = .ok (.getfield 19, 3) := by decide +kernel
theorem dX11_bars_4 : decode cX11_bars 4 = .ok (.iload_n 1, 1) := by decide +kernel
theorem dX11_bars_5 : decode cX11_bars 5 = .ok (.invokevirtual 181, 3) := by decide +kernel
theorem dX11_bars_8 : decode cX11_bars 8 = .ok (.ifCond .ne 9, 3) := by decide +kernel
theorem dX11_bars_11 : decode cX11_bars 11 = .ok (.aload_n 0, 1) := by decide +kernel
theorem dX11_bars_12 : decode cX11_bars 12 = .ok (.iconst 0, 1) := by decide +kernel
theorem dX11_bars_13 : decode cX11_bars 13 = .ok (.invokevirtual 246, 3) := by decide +kernel
theorem dX11_bars_16 : decode cX11_bars 16 = .ok (.ireturn, 1) := by decide +kernel
theorem dX11_bars_17 : decode cX11_bars 17 = .ok (.aload_n 0, 1) := by decide +kernel
theorem dX11_bars_18 : decode cX11_bars 18 = .ok (.getfield 52, 3) := by decide +kernel
theorem dX11_bars_21 : decode cX11_bars 21 = .ok (.getfield 178, 3) := by decide +kernel
theorem dX11_bars_24 : decode cX11_bars 24 = .ok (.iconst 1, 1) := by decide +kernel
theorem dX11_bars_25 : decode cX11_bars 25 = .ok (.if_icmp .ge 9, 3) := by decide +kernel
theorem dX11_bars_28 : decode cX11_bars 28 = .ok (.aload_n 0, 1) := by decide +kernel
theorem dX11_bars_29 : decode cX11_bars 29 = .ok (.iconst 3, 1) := by decide +kernel
theorem dX11_bars_30 : decode cX11_bars 30 = .ok (.invokevirtual 246, 3) := by decide +kernel
theorem dX11_bars_33 : decode cX11_bars 33 = .ok (.ireturn, 1) := by decide +kernel
theorem dX11_bars_34 : decode cX11_bars 34 = .ok (.aload_n 0, 1) := by decide +kernel
theorem dX11_bars_35 : decode cX11_bars 35 = .ok (.getfield 71, 3) := by decide +kernel
theorem dX11_bars_38 : decode cX11_bars 38 = .ok (.aload_n 0, 1) := by decide +kernel
theorem dX11_bars_39 : decode cX11_bars 39 = .ok (.getfield 52, 3) := by decide +kernel
theorem dX11_bars_42 : decode cX11_bars 42 = .ok (.invokevirtual 252, 3) := by decide +kernel
theorem dX11_bars_45 : decode cX11_bars 45 = .ok (.aload_n 0, 1) := by decide +kernel
theorem dX11_bars_46 : decode cX11_bars 46 = .ok (.getfield 52, 3) := by decide +kernel
theorem dX11_bars_49 : decode cX11_bars 49 = .ok (.dup, 1) := by decide +kernel
theorem dX11_bars_50 : decode cX11_bars 50 = .ok (.getfield 178, 3) := by decide +kernel
theorem dX11_bars_53 : decode cX11_bars 53 = .ok (.iconst 1, 1) := by decide +kernel
theorem dX11_bars_54 : decode cX11_bars 54 = .ok (.isub, 1) := by decide +kernel
theorem dX11_bars_55 : decode cX11_bars 55 = .ok (.putfield 178, 3) := by decide +kernel
theorem dX11_bars_58 : decode cX11_bars 58 = .ok (.aload_n 0, 1) := by decide +kernel
theorem dX11_bars_59 : decode cX11_bars 59 = .ok (.getfield 52, 3) := by decide +kernel
theorem dX11_bars_62 : decode cX11_bars 62 = .ok (.dup, 1) := by decide +kernel
theorem dX11_bars_63 : decode cX11_bars 63 = .ok (.getfield 206, 3) := by decide +kernel
theorem dX11_bars_66 : decode cX11_bars 66 = .ok (.iconst 1, 1) := by decide +kernel
theorem dX11_bars_67 : decode cX11_bars 67 = .ok (.iload_n 1, 1) := by decide +kernel
theorem dX11_bars_68 : decode cX11_bars 68 = .ok (.ishl, 1) := by decide +kernel
theorem dX11_bars_69 : decode cX11_bars 69 = .ok (.ixor, 1) := by decide +kernel
theorem dX11_bars_70 : decode cX11_bars 70 = .ok (.putfield 206, 3) := by decide +kernel
theorem dX11_bars_73 : decode cX11_bars 73 = .ok (.aload_n 0, 1) := by decide +kernel
theorem dX11_bars_74 : decode cX11_bars 74 = .ok (.getfield 52, 3) := by decide +kernel
theorem dX11_bars_77 : decode cX11_bars 77 = .ok (.getfield 206, 3) := by decide +kernel
theorem dX11_bars_80 : decode cX11_bars 80 = .ok (.iload_n 1, 1) := by decide +kernel
theorem dX11_bars_81 : decode cX11_bars 81 = .ok (.ishr, 1) := by decide +kernel
theorem dX11_bars_82 : decode cX11_bars 82 = .ok (.iconst 1, 1) := by decide +kernel
theorem dX11_bars_83 : decode cX11_bars 83 = .ok (.iand, 1) := by decide +kernel
theorem dX11_bars_84 : decode cX11_bars 84 = .ok (.ireturn, 1) := by decide +kernel
theorem dX11_give_0 : decode cX11_give 0 = .ok (.aload_n 0, 1) := by decide +kernel
theorem dX11_give_1 : decode cX11_give 1 = .ok (.getfield 19, 3) := by decide +kernel
theorem dX11_give_4 : decode cX11_give 4 = .ok (.invokevirtual 172, 3) := by decide +kernel
theorem dX11_give_7 : decode cX11_give 7 = .ok (.ifCond .ne 9, 3) := by decide +kernel
theorem dX11_give_10 : decode cX11_give 10 = .ok (.aload_n 0, 1) := by decide +kernel
theorem dX11_give_11 : decode cX11_give 11 = .ok (.iconst 0, 1) := by decide +kernel
theorem dX11_give_12 : decode cX11_give 12 = .ok (.invokevirtual 246, 3) := by decide +kernel
theorem dX11_give_15 : decode cX11_give 15 = .ok (.ireturn, 1) := by decide +kernel
theorem dX11_give_16 : decode cX11_give 16 = .ok (.iload_n 1, 1) := by decide +kernel
theorem dX11_give_17 : decode cX11_give 17 = .ok (.iconst 1, 1) := by decide +kernel
theorem dX11_give_18 : decode cX11_give 18 = .ok (.if_icmp .lt 24, 3) := by decide +kernel
theorem dX11_give_21 : decode cX11_give 21 = .ok (.iload_n 1, 1) := by decide +kernel
theorem dX11_give_22 : decode cX11_give 22 = .ok (.bipush 50, 2) := by decide +kernel
theorem dX11_give_24 : decode cX11_give 24 = .ok (.if_icmp .gt 18, 3) := by decide +kernel
theorem dX11_give_27 : decode cX11_give 27 = .ok (.aload_n 0, 1) := by decide +kernel
theorem dX11_give_28 : decode cX11_give 28 = .ok (.getfield 52, 3) := by decide +kernel
theorem dX11_give_31 : decode cX11_give 31 = .ok (.getfield 178, 3) := by decide +kernel
theorem dX11_give_34 : decode cX11_give 34 = .ok (.iload_n 1, 1) := by decide +kernel
theorem dX11_give_35 : decode cX11_give 35 = .ok (.iadd, 1) := by decide +kernel
theorem dX11_give_36 : decode cX11_give 36 = .ok (.sipush 999, 3) := by decide +kernel
theorem dX11_give_39 : decode cX11_give 39 = .ok (.if_icmp .le 9, 3) := by decide +kernel
theorem dX11_give_42 : decode cX11_give 42 = .ok (.aload_n 0, 1) := by decide +kernel
theorem dX11_give_43 : decode cX11_give 43 = .ok (.iconst 1, 1) := by decide +kernel
theorem dX11_give_44 : decode cX11_give 44 = .ok (.invokevirtual 246, 3) := by decide +kernel
theorem dX11_give_47 : decode cX11_give 47 = .ok (.ireturn, 1) := by decide +kernel
theorem dX11_give_48 : decode cX11_give 48 = .ok (.aload_n 0, 1) := by decide +kernel
theorem dX11_give_49 : decode cX11_give 49 = .ok (.getfield 71, 3) := by decide +kernel
theorem dX11_give_52 : decode cX11_give 52 = .ok (.aload_n 0, 1) := by decide +kernel
theorem dX11_give_53 : decode cX11_give 53 = .ok (.getfield 52, 3) := by decide +kernel
theorem dX11_give_56 : decode cX11_give 56 = .ok (.invokevirtual 252, 3) := by decide +kernel
theorem dX11_give_59 : decode cX11_give 59 = .ok (.aload_n 0, 1) := by decide +kernel
theorem dX11_give_60 : decode cX11_give 60 = .ok (.getfield 52, 3) := by decide +kernel
theorem dX11_give_63 : decode cX11_give 63 = .ok (.dup, 1) := by decide +kernel
theorem dX11_give_64 : decode cX11_give 64 = .ok (.getfield 178, 3) := by decide +kernel
theorem dX11_give_67 : decode cX11_give 67 = .ok (.iload_n 1, 1) := by decide +kernel
theorem dX11_give_68 : decode cX11_give 68 = .ok (.iadd, 1) := by decide +kernel
theorem dX11_give_69 : decode cX11_give 69 = .ok (.putfield 178, 3) := by decide +kernel
theorem dX11_give_72 : decode cX11_give 72 = .ok (.aload_n 0, 1) := by decide +kernel
theorem dX11_give_73 : decode cX11_give 73 = .ok (.getfield 52, 3) := by decide +kernel
theorem dX11_give_76 : decode cX11_give 76 = .ok (.getfield 178, 3) := by decide +kernel
theorem dX11_give_79 : decode cX11_give 79 = .ok (.ireturn, 1) := by decide +kernel
theorem dX11_flood_0 : decode cX11_flood 0 = .ok (.iload_n 1, 1) := by decide +kernel
theorem dX11_flood_1 : decode cX11_flood 1 = .ok (.ifCond .lt 17, 3) := by decide +kernel
theorem dX11_flood_4 : decode cX11_flood 4 = .ok (.iload_n 1, 1) := by decide +kernel
theorem dX11_flood_5 : decode cX11_flood 5 = .ok (.bipush 9, 2) := by decide +kernel
theorem dX11_flood_7 : decode cX11_flood 7 = .ok (.if_icmp .gt 11, 3) := by decide +kernel
theorem dX11_flood_10 : decode cX11_flood 10 = .ok (.iload_n 1, 1) := by decide +kernel
theorem dX11_flood_11 : decode cX11_flood 11 = .ok (.aload_n 0, 1) := by decide +kernel
theorem dX11_flood_12 : decode cX11_flood 12 = .ok (.getfield 106, 3) := by decide +kernel
theorem dX11_flood_15 : decode cX11_flood 15 = .ok (.if_icmp .ne 5, 3) := by decide +kernel
theorem dX11_flood_18 : decode cX11_flood 18 = .ok (.iconst 0, 1) := by decide +kernel
theorem dX11_flood_19 : decode cX11_flood 19 = .ok (.ireturn, 1) := by decide +kernel
theorem dX11_flood_20 : decode cX11_flood 20 = .ok (.aload_n 0, 1) := by decide +kernel
theorem dX11_flood_21 : decode cX11_flood 21 = .ok (.iload_n 1, 1) := by decide +kernel
theorem dX11_flood_22 : decode cX11_flood 22 = .ok (.putfield 106, 3) := by decide +kernel
theorem dX11_flood_25 : decode cX11_flood 25 = .ok (.iconst 1, 1) := by decide +kernel
theorem dX11_flood_26 : decode cX11_flood 26 = .ok (.ireturn, 1) := by decide +kernel
theorem dX11_years_0 : decode cX11_years 0 = .ok (.aload_n 0, 1) := by decide +kernel
theorem dX11_years_1 : decode cX11_years 1 = .ok (.getfield 19, 3) := by decide +kernel
theorem dX11_years_4 : decode cX11_years 4 = .ok (.invokevirtual 172, 3) := by decide +kernel
theorem dX11_years_7 : decode cX11_years 7 = .ok (.ifCond .eq 29, 3) := by decide +kernel
theorem dX11_years_10 : decode cX11_years 10 = .ok (.iload_n 1, 1) := by decide +kernel
theorem dX11_years_11 : decode cX11_years 11 = .ok (.iconst 1, 1) := by decide +kernel
theorem dX11_years_12 : decode cX11_years 12 = .ok (.if_icmp .lt 24, 3) := by decide +kernel
theorem dX11_years_15 : decode cX11_years 15 = .ok (.iload_n 1, 1) := by decide +kernel
theorem dX11_years_16 : decode cX11_years 16 = .ok (.bipush 60, 2) := by decide +kernel
theorem dX11_years_18 : decode cX11_years 18 = .ok (.if_icmp .gt 18, 3) := by decide +kernel
theorem dX11_years_21 : decode cX11_years 21 = .ok (.aload_n 0, 1) := by decide +kernel
theorem dX11_years_22 : decode cX11_years 22 = .ok (.getfield 52, 3) := by decide +kernel
theorem dX11_years_25 : decode cX11_years 25 = .ok (.getfield 249, 3) := by decide +kernel
theorem dX11_years_28 : decode cX11_years 28 = .ok (.iload_n 1, 1) := by decide +kernel
theorem dX11_years_29 : decode cX11_years 29 = .ok (.iadd, 1) := by decide +kernel
theorem dX11_years_30 : decode cX11_years 30 = .ok (.sipush 999, 3) := by decide +kernel
theorem dX11_years_33 : decode cX11_years 33 = .ok (.if_icmp .le 5, 3) := by decide +kernel
theorem dX11_years_36 : decode cX11_years 36 = .ok (.iconst (-1), 1) := by decide +kernel
theorem dX11_years_37 : decode cX11_years 37 = .ok (.ireturn, 1) := by decide +kernel
theorem dX11_years_38 : decode cX11_years 38 = .ok (.aload_n 0, 1) := by decide +kernel
theorem dX11_years_39 : decode cX11_years 39 = .ok (.lload_n 2, 1) := by decide +kernel
theorem dX11_years_40 : decode cX11_years 40 = .ok (.putfield 276, 3) := by decide +kernel
theorem dX11_years_43 : decode cX11_years 43 = .ok (.iconst 0, 1) := by decide +kernel
theorem dX11_years_44 : decode cX11_years 44 = .ok (.istore 4, 2) := by decide +kernel
theorem dX11_years_46 : decode cX11_years 46 = .ok (.iload 4, 2) := by decide +kernel
theorem dX11_years_48 : decode cX11_years 48 = .ok (.iload_n 1, 1) := by decide +kernel
theorem dX11_years_49 : decode cX11_years 49 = .ok (.if_icmp .ge 32, 3) := by decide +kernel
theorem dX11_years_52 : decode cX11_years 52 = .ok (.aload_n 0, 1) := by decide +kernel
theorem dX11_years_53 : decode cX11_years 53 = .ok (.getfield 71, 3) := by decide +kernel
theorem dX11_years_56 : decode cX11_years 56 = .ok (.aload_n 0, 1) := by decide +kernel
theorem dX11_years_57 : decode cX11_years 57 = .ok (.getfield 52, 3) := by decide +kernel
theorem dX11_years_60 : decode cX11_years 60 = .ok (.invokevirtual 252, 3) := by decide +kernel
theorem dX11_years_63 : decode cX11_years 63 = .ok (.aload_n 0, 1) := by decide +kernel
theorem dX11_years_64 : decode cX11_years 64 = .ok (.invokevirtual 280, 3) := by decide +kernel
theorem dX11_years_67 : decode cX11_years 67 = .ok (.aload_n 0, 1) := by decide +kernel
theorem dX11_years_68 : decode cX11_years 68 = .ok (.invokevirtual 283, 3) := by decide +kernel
theorem dX11_years_71 : decode cX11_years 71 = .ok (.aload_n 0, 1) := by decide +kernel
theorem dX11_years_72 : decode cX11_years 72 = .ok (.invokevirtual 255, 3) := by decide +kernel
theorem dX11_years_75 : decode cX11_years 75 = .ok (.iinc 4 1, 3) := by decide +kernel
theorem dX11_years_78 : decode cX11_years 78 = .ok (.goto (-32), 3) := by decide +kernel
theorem dX11_years_81 : decode cX11_years 81 = .ok (.aload_n 0, 1) := by decide +kernel
theorem dX11_years_82 : decode cX11_years 82 = .ok (.getfield 52, 3) := by decide +kernel
theorem dX11_years_85 : decode cX11_years 85 = .ok (.getfield 249, 3) := by decide +kernel
theorem dX11_years_88 : decode cX11_years 88 = .ok (.ireturn, 1) := by decide +kernel
theorem dX11_drawFlood_0 : decode cX11_drawFlood 0 = .ok (.aload_n 0, 1) := by decide +kernel
theorem dX11_drawFlood_1 : decode cX11_drawFlood 1 = .ok (.bipush 10, 2) := by decide +kernel
theorem dX11_drawFlood_3 : decode cX11_drawFlood 3 = .ok (.invokevirtual 286, 3) := by decide +kernel
theorem dX11_drawFlood_6 : decode cX11_drawFlood 6 = .ok (.aload_n 0, 1) := by decide +kernel
theorem dX11_drawFlood_7 : decode cX11_drawFlood 7 = .ok (.getfield 106, 3) := by decide +kernel
theorem dX11_drawFlood_10 : decode cX11_drawFlood 10 = .ok (.if_icmp .ge 28, 3) := by decide +kernel
theorem dX11_drawFlood_13 : decode cX11_drawFlood 13 = .ok (.aload_n 0, 1) := by decide +kernel
theorem dX11_drawFlood_14 : decode cX11_drawFlood 14 = .ok (.getfield 52, 3) := by decide +kernel
theorem dX11_drawFlood_17 : decode cX11_drawFlood 17 = .ok (.dup, 1) := by decide +kernel
theorem dX11_drawFlood_18 : decode cX11_drawFlood 18 = .ok (.getfield 206, 3) := by decide +kernel
theorem dX11_drawFlood_21 : decode cX11_drawFlood 21 = .ok (.iconst 1, 1) := by decide +kernel
theorem dX11_drawFlood_22 : decode cX11_drawFlood 22 = .ok (.aload_n 0, 1) := by decide +kernel
theorem dX11_drawFlood_23 : decode cX11_drawFlood 23 = .ok (.aload_n 0, 1) := by decide +kernel
theorem dX11_drawFlood_24 : decode cX11_drawFlood 24 = .ok (.getfield 19, 3) := by decide +kernel
theorem dX11_drawFlood_27 : decode cX11_drawFlood 27 = .ok (.getfield 289, 3) := by decide +kernel
theorem dX11_drawFlood_30 : decode cX11_drawFlood 30 = .ok (.invokevirtual 286, 3) := by decide +kernel
theorem dX11_drawFlood_33 : decode cX11_drawFlood 33 = .ok (.ishl, 1) := by decide +kernel
theorem dX11_drawFlood_34 : decode cX11_drawFlood 34 = .ok (.ixor, 1) := by decide +kernel
theorem dX11_drawFlood_35 : decode cX11_drawFlood 35 = .ok (.putfield 206, 3) := by decide +kernel
theorem dX11_drawFlood_38 : decode cX11_drawFlood 38 = .ok (.return_, 1) := by decide +kernel
theorem dX11_drawPut_0 : decode cX11_drawPut 0 = .ok (.aload_n 0, 1) := by decide +kernel
theorem dX11_drawPut_1 : decode cX11_drawPut 1 = .ok (.aload_n 0, 1) := by decide +kernel
theorem dX11_drawPut_2 : decode cX11_drawPut 2 = .ok (.getfield 19, 3) := by decide +kernel
theorem dX11_drawPut_5 : decode cX11_drawPut 5 = .ok (.getfield 292, 3) := by decide +kernel
theorem dX11_drawPut_8 : decode cX11_drawPut 8 = .ok (.invokevirtual 286, 3) := by decide +kernel
theorem dX11_drawPut_11 : decode cX11_drawPut 11 = .ok (.istore_n 1, 1) := by decide +kernel
theorem dX11_drawPut_12 : decode cX11_drawPut 12 = .ok (.aload_n 0, 1) := by decide +kernel
theorem dX11_drawPut_13 : decode cX11_drawPut 13 = .ok (.iconst 4, 1) := by decide +kernel
theorem dX11_drawPut_14 : decode cX11_drawPut 14 = .ok (.invokevirtual 286, 3) := by decide +kernel
theorem dX11_drawPut_17 : decode cX11_drawPut 17 = .ok (.istore_n 2, 1) := by decide +kernel
theorem dX11_drawPut_18 : decode cX11_drawPut 18 = .ok (.aload_n 0, 1) := by decide +kernel
theorem dX11_drawPut_19 : decode cX11_drawPut 19 = .ok (.getfield 19, 3) := by decide +kernel
theorem dX11_drawPut_22 : decode cX11_drawPut 22 = .ok (.iload_n 1, 1) := by decide +kernel
theorem dX11_drawPut_23 : decode cX11_drawPut 23 = .ok (.invokevirtual 209, 3) := by decide +kernel
theorem dX11_drawPut_26 : decode cX11_drawPut 26 = .ok (.ifCond .eq 57, 3) := by decide +kernel
theorem dX11_drawPut_29 : decode cX11_drawPut 29 = .ok (.aload_n 0, 1) := by decide +kernel
theorem dX11_drawPut_30 : decode cX11_drawPut 30 = .ok (.getfield 52, 3) := by decide +kernel
theorem dX11_drawPut_33 : decode cX11_drawPut 33 = .ok (.getfield 218, 3) := by decide +kernel
theorem dX11_drawPut_36 : decode cX11_drawPut 36 = .ok (.iload_n 1, 1) := by decide +kernel
theorem dX11_drawPut_37 : decode cX11_drawPut 37 = .ok (.iaload, 1) := by decide +kernel
theorem dX11_drawPut_38 : decode cX11_drawPut 38 = .ok (.iconst (-1), 1) := by decide +kernel
theorem dX11_drawPut_39 : decode cX11_drawPut 39 = .ok (.if_icmp .ne 44, 3) := by decide +kernel
theorem dX11_drawPut_42 : decode cX11_drawPut 42 = .ok (.aload_n 0, 1) := by decide +kernel
theorem dX11_drawPut_43 : decode cX11_drawPut 43 = .ok (.getfield 45, 3) := by decide +kernel
theorem dX11_drawPut_46 : decode cX11_drawPut 46 = .ok (.iload_n 2, 1) := by decide +kernel
theorem dX11_drawPut_47 : decode cX11_drawPut 47 = .ok (.invokevirtual 236, 3) := by decide +kernel
theorem dX11_drawPut_50 : decode cX11_drawPut 50 = .ok (.ifCond .eq 33, 3) := by decide +kernel
theorem dX11_drawPut_53 : decode cX11_drawPut 53 = .ok (.aload_n 0, 1) := by decide +kernel
theorem dX11_drawPut_54 : decode cX11_drawPut 54 = .ok (.getfield 45, 3) := by decide +kernel
theorem dX11_drawPut_57 : decode cX11_drawPut 57 = .ok (.iload_n 2, 1) := by decide +kernel
theorem dX11_drawPut_58 : decode cX11_drawPut 58 = .ok (.iconst 0, 1) := by decide +kernel
theorem dX11_drawPut_59 : decode cX11_drawPut 59 = .ok (.invokevirtual 242, 3) := by decide +kernel
theorem dX11_drawPut_62 : decode cX11_drawPut 62 = .ok (.aload_n 0, 1) := by decide +kernel
theorem dX11_drawPut_63 : decode cX11_drawPut 63 = .ok (.getfield 52, 3) := by decide +kernel
theorem dX11_drawPut_66 : decode cX11_drawPut 66 = .ok (.getfield 215, 3) := by decide +kernel
theorem dX11_drawPut_69 : decode cX11_drawPut 69 = .ok (.iload_n 1, 1) := by decide +kernel
theorem dX11_drawPut_70 : decode cX11_drawPut 70 = .ok (.iaload, 1) := by decide +kernel
theorem dX11_drawPut_71 : decode cX11_drawPut 71 = .ok (.if_icmp .ne 12, 3) := by decide +kernel
theorem dX11_drawPut_74 : decode cX11_drawPut 74 = .ok (.aload_n 0, 1) := by decide +kernel
theorem dX11_drawPut_75 : decode cX11_drawPut 75 = .ok (.getfield 52, 3) := by decide +kernel
theorem dX11_drawPut_78 : decode cX11_drawPut 78 = .ok (.iload_n 1, 1) := by decide +kernel
theorem dX11_drawPut_79 : decode cX11_drawPut 79 = .ok (.iload_n 2, 1) := by decide +kernel
theorem dX11_drawPut_80 : decode cX11_drawPut 80 = .ok (.invokevirtual 269, 3) := by decide +kernel
theorem dX11_drawPut_83 : decode cX11_drawPut 83 = .ok (.return_, 1) := by decide +kernel
theorem dX11_draw_0 : decode cX11_draw 0 = .ok (.aload_n 0, 1) := by decide +kernel
theorem dX11_draw_1 : decode cX11_draw 1 = .ok (.aload_n 0, 1) := by decide +kernel
theorem dX11_draw_2 : decode cX11_draw 2 = .ok (.getfield 276, 3) := by decide +kernel
theorem dX11_draw_5 : decode cX11_draw 5 = .ok (.ldc2_w 295, 3) := by decide +kernel
theorem dX11_draw_8 : decode cX11_draw 8 = .ok (.lmul, 1) := by decide +kernel
theorem dX11_draw_9 : decode cX11_draw 9 = .ok (.ldc2_w 297, 3) := by decide +kernel
theorem dX11_draw_12 : decode cX11_draw 12 = .ok (.ladd, 1) := by decide +kernel
theorem dX11_draw_13 : decode cX11_draw 13 = .ok (.putfield 276, 3) := by decide +kernel
theorem dX11_draw_16 : decode cX11_draw 16 = .ok (.iload_n 1, 1) := by decide +kernel
theorem dX11_draw_17 : decode cX11_draw 17 = .ok (.ifCond .le 17, 3) := by decide +kernel
theorem dX11_draw_20 : decode cX11_draw 20 = .ok (.aload_n 0, 1) := by decide +kernel
theorem dX11_draw_21 : decode cX11_draw 21 = .ok (.getfield 276, 3) := by decide +kernel
theorem dX11_draw_24 : decode cX11_draw 24 = .ok (.bipush 33, 2) := by decide +kernel
theorem dX11_draw_26 : decode cX11_draw 26 = .ok (.lushr, 1) := by decide +kernel
theorem dX11_draw_27 : decode cX11_draw 27 = .ok (.iload_n 1, 1) := by decide +kernel
theorem dX11_draw_28 : decode cX11_draw 28 = .ok (.i2l, 1) := by decide +kernel
theorem dX11_draw_29 : decode cX11_draw 29 = .ok (.lrem, 1) := by decide +kernel
theorem dX11_draw_30 : decode cX11_draw 30 = .ok (.l2i, 1) := by decide +kernel
theorem dX11_draw_31 : decode cX11_draw 31 = .ok (.goto 4, 3) := by decide +kernel
theorem dX11_draw_34 : decode cX11_draw 34 = .ok (.iconst 0, 1) := by decide +kernel
theorem dX11_draw_35 : decode cX11_draw 35 = .ok (.ireturn, 1) := by decide +kernel
theorem dX11_status_0 : decode cX11_status 0 = .ok (.iload_n 1, 1) := by decide +kernel
theorem dX11_status_1 : decode cX11_status 1 = .ok (.ifCond .lt 8, 3) := by decide +kernel
theorem dX11_status_4 : decode cX11_status 4 = .ok (.iload_n 1, 1) := by decide +kernel
theorem dX11_status_5 : decode cX11_status 5 = .ok (.iconst 5, 1) := by decide +kernel
theorem dX11_status_6 : decode cX11_status 6 = .ok (.if_icmp .lt 7, 3) := by decide +kernel
theorem dX11_status_9 : decode cX11_status 9 = .ok (.iconst (-1), 1) := by decide +kernel
theorem dX11_status_10 : decode cX11_status 10 = .ok (.goto 9, 3) := by decide +kernel
theorem dX11_status_13 : decode cX11_status 13 = .ok (.aload_n 0, 1) := by decide +kernel
theorem dX11_status_14 : decode cX11_status 14 = .ok (.getfield 102, 3) := by decide +kernel
theorem dX11_status_17 : decode cX11_status 17 = .ok (.iload_n 1, 1) := by decide +kernel
theorem dX11_status_18 : decode cX11_status 18 = .ok (.iaload, 1) := by decide +kernel
theorem dX11_status_19 : decode cX11_status 19 = .ok (.ireturn, 1) := by decide +kernel
theorem dX11_undo_0 : decode cX11_undo 0 = .ok (.aload_n 0, 1) := by decide +kernel
theorem dX11_undo_1 : decode cX11_undo 1 = .ok (.getfield 71, 3) := by decide +kernel
theorem dX11_undo_4 : decode cX11_undo 4 = .ok (.aload_n 0, 1) := by decide +kernel
theorem dX11_undo_5 : decode cX11_undo 5 = .ok (.getfield 52, 3) := by decide +kernel
theorem dX11_undo_8 : decode cX11_undo 8 = .ok (.invokevirtual 299, 3) := by decide +kernel
theorem dX11_undo_11 : decode cX11_undo 11 = .ok (.ireturn, 1) := by decide +kernel
theorem dX11_log_0 : decode cX11_log 0 = .ok (.iload_n 1, 1) := by decide +kernel
theorem dX11_log_1 : decode cX11_log 1 = .ok (.ifCond .lt 26, 3) := by decide +kernel
theorem dX11_log_4 : decode cX11_log 4 = .ok (.iload_n 1, 1) := by decide +kernel
theorem dX11_log_5 : decode cX11_log 5 = .ok (.aload_n 0, 1) := by decide +kernel
theorem dX11_log_6 : decode cX11_log 6 = .ok (.getfield 52, 3) := by decide +kernel
theorem dX11_log_9 : decode cX11_log 9 = .ok (.getfield 249, 3) := by decide +kernel
theorem dX11_log_12 : decode cX11_log 12 = .ok (.invokestatic 302, 3) := by decide +kernel
theorem dX11_log_15 : decode cX11_log 15 = .ok (.if_icmp .ge 12, 3) := by decide +kernel
theorem dX11_log_18 : decode cX11_log 18 = .ok (.iload_n 2, 1) := by decide +kernel
theorem dX11_log_19 : decode cX11_log 19 = .ok (.ifCond .lt 8, 3) := by decide +kernel
theorem dX11_log_22 : decode cX11_log 22 = .ok (.iload_n 2, 1) := by decide +kernel
theorem dX11_log_23 : decode cX11_log 23 = .ok (.iconst 2, 1) := by decide +kernel
theorem dX11_log_24 : decode cX11_log 24 = .ok (.if_icmp .le 5, 3) := by decide +kernel
theorem dX11_log_27 : decode cX11_log 27 = .ok (.iconst (-1), 1) := by decide +kernel
theorem dX11_log_28 : decode cX11_log 28 = .ok (.ireturn, 1) := by decide +kernel
theorem dX11_log_29 : decode cX11_log 29 = .ok (.aload_n 0, 1) := by decide +kernel
theorem dX11_log_30 : decode cX11_log 30 = .ok (.getfield 71, 3) := by decide +kernel
theorem dX11_log_33 : decode cX11_log 33 = .ok (.aload_n 0, 1) := by decide +kernel
theorem dX11_log_34 : decode cX11_log 34 = .ok (.getfield 52, 3) := by decide +kernel
theorem dX11_log_37 : decode cX11_log 37 = .ok (.getfield 249, 3) := by decide +kernel
theorem dX11_log_40 : decode cX11_log 40 = .ok (.iload_n 1, 1) := by decide +kernel
theorem dX11_log_41 : decode cX11_log 41 = .ok (.isub, 1) := by decide +kernel
theorem dX11_log_42 : decode cX11_log 42 = .ok (.iload_n 2, 1) := by decide +kernel
theorem dX11_log_43 : decode cX11_log 43 = .ok (.invokevirtual 305, 3) := by decide +kernel
theorem dX11_log_46 : decode cX11_log 46 = .ok (.ireturn, 1) := by decide +kernel
theorem dX11_far_0 : decode cX11_far 0 = .ok (.aload_n 0, 1) := by decide +kernel
theorem dX11_far_1 : decode cX11_far 1 = .ok (.getfield 19, 3) := by decide +kernel
theorem dX11_far_4 : decode cX11_far 4 = .ok (.iload_n 1, 1) := by decide +kernel
theorem dX11_far_5 : decode cX11_far 5 = .ok (.iload_n 2, 1) := by decide +kernel
theorem dX11_far_6 : decode cX11_far 6 = .ok (.invokevirtual 308, 3) := by decide +kernel
theorem dX11_far_9 : decode cX11_far 9 = .ok (.ifCond .ne 5, 3) := by decide +kernel
theorem dX11_far_12 : decode cX11_far 12 = .ok (.iconst (-1), 1) := by decide +kernel
theorem dX11_far_13 : decode cX11_far 13 = .ok (.ireturn, 1) := by decide +kernel
theorem dX11_far_14 : decode cX11_far 14 = .ok (.aload_n 0, 1) := by decide +kernel
theorem dX11_far_15 : decode cX11_far 15 = .ok (.getfield 80, 3) := by decide +kernel
theorem dX11_far_18 : decode cX11_far 18 = .ok (.aload_n 0, 1) := by decide +kernel
theorem dX11_far_19 : decode cX11_far 19 = .ok (.getfield 52, 3) := by decide +kernel
theorem dX11_far_22 : decode cX11_far 22 = .ok (.invokevirtual 312, 3) := by decide +kernel
theorem dX11_far_25 : decode cX11_far 25 = .ok (.aload_n 0, 1) := by decide +kernel
theorem dX11_far_26 : decode cX11_far 26 = .ok (.getfield 80, 3) := by decide +kernel
theorem dX11_far_29 : decode cX11_far 29 = .ok (.iload_n 1, 1) := by decide +kernel
theorem dX11_far_30 : decode cX11_far 30 = .ok (.iload_n 2, 1) := by decide +kernel
theorem dX11_far_31 : decode cX11_far 31 = .ok (.invokevirtual 313, 3) := by decide +kernel
theorem dX11_far_34 : decode cX11_far 34 = .ok (.ifCond .eq 17, 3) := by decide +kernel
theorem dX11_far_37 : decode cX11_far 37 = .ok (.aload_n 0, 1) := by decide +kernel
theorem dX11_far_38 : decode cX11_far 38 = .ok (.getfield 80, 3) := by decide +kernel
theorem dX11_far_41 : decode cX11_far 41 = .ok (.getfield 316, 3) := by decide +kernel
theorem dX11_far_44 : decode cX11_far 44 = .ok (.iload_n 1, 1) := by decide +kernel
theorem dX11_far_45 : decode cX11_far 45 = .ok (.aaload, 1) := by decide +kernel
theorem dX11_far_46 : decode cX11_far 46 = .ok (.iload_n 2, 1) := by decide +kernel
theorem dX11_far_47 : decode cX11_far 47 = .ok (.iaload, 1) := by decide +kernel
theorem dX11_far_48 : decode cX11_far 48 = .ok (.goto 4, 3) := by decide +kernel
theorem dX11_far_51 : decode cX11_far 51 = .ok (.iconst (-1), 1) := by decide +kernel
theorem dX11_far_52 : decode cX11_far 52 = .ok (.ireturn, 1) := by decide +kernel
theorem dX11_row_0 : decode cX11_row 0 = .ok (.aload_n 0, 1) := by decide +kernel
theorem dX11_row_1 : decode cX11_row 1 = .ok (.getfield 19, 3) := by decide +kernel
theorem dX11_row_4 : decode cX11_row 4 = .ok (.iload_n 1, 1) := by decide +kernel
theorem dX11_row_5 : decode cX11_row 5 = .ok (.iload_n 2, 1) := by decide +kernel
theorem dX11_row_6 : decode cX11_row 6 = .ok (.invokevirtual 308, 3) := by decide +kernel
theorem dX11_row_9 : decode cX11_row 9 = .ok (.ifCond .ne 5, 3) := by decide +kernel
theorem dX11_row_12 : decode cX11_row 12 = .ok (.iconst (-1), 1) := by decide +kernel
theorem dX11_row_13 : decode cX11_row 13 = .ok (.ireturn, 1) := by decide +kernel
theorem dX11_row_14 : decode cX11_row 14 = .ok (.aload_n 0, 1) := by decide +kernel
theorem dX11_row_15 : decode cX11_row 15 = .ok (.getfield 80, 3) := by decide +kernel
theorem dX11_row_18 : decode cX11_row 18 = .ok (.aload_n 0, 1) := by decide +kernel
theorem dX11_row_19 : decode cX11_row 19 = .ok (.getfield 52, 3) := by decide +kernel
theorem dX11_row_22 : decode cX11_row 22 = .ok (.invokevirtual 312, 3) := by decide +kernel
theorem dX11_row_25 : decode cX11_row 25 = .ok (.aload_n 0, 1) := by decide +kernel
theorem dX11_row_26 : decode cX11_row 26 = .ok (.getfield 80, 3) := by decide +kernel
theorem dX11_row_29 : decode cX11_row 29 = .ok (.iload_n 1, 1) := by decide +kernel
theorem dX11_row_30 : decode cX11_row 30 = .ok (.iload_n 2, 1) := by decide +kernel
theorem dX11_row_31 : decode cX11_row 31 = .ok (.invokevirtual 313, 3) := by decide +kernel
theorem dX11_row_34 : decode cX11_row 34 = .ok (.ifCond .eq 15, 3) := by decide +kernel
theorem dX11_row_37 : decode cX11_row 37 = .ok (.aload_n 0, 1) := by decide +kernel
theorem dX11_row_38 : decode cX11_row 38 = .ok (.getfield 80, 3) := by decide +kernel
theorem dX11_row_41 : decode cX11_row 41 = .ok (.iload_n 1, 1) := by decide +kernel
theorem dX11_row_42 : decode cX11_row 42 = .ok (.iload_n 2, 1) := by decide +kernel
theorem dX11_row_43 : decode cX11_row 43 = .ok (.invokevirtual 319, 3) := by decide +kernel
theorem dX11_row_46 : decode cX11_row 46 = .ok (.goto 4, 3) := by decide +kernel
theorem dX11_row_49 : decode cX11_row 49 = .ok (.iconst (-1), 1) := by decide +kernel
theorem dX11_row_50 : decode cX11_row 50 = .ok (.ireturn, 1) := by decide +kernel
theorem dX11_where_0 : decode cX11_where 0 = .ok (.aload_n 0, 1) := by decide +kernel
theorem dX11_where_1 : decode cX11_where 1 = .ok (.getfield 19, 3) := by decide +kernel
theorem dX11_where_4 : decode cX11_where 4 = .ok (.iload_n 1, 1) := by decide +kernel
theorem dX11_where_5 : decode cX11_where 5 = .ok (.invokevirtual 209, 3) := by decide +kernel
theorem dX11_where_8 : decode cX11_where 8 = .ok (.ifCond .eq 13, 3) := by decide +kernel
theorem dX11_where_11 : decode cX11_where 11 = .ok (.iload_n 2, 1) := by decide +kernel
theorem dX11_where_12 : decode cX11_where 12 = .ok (.ifCond .lt 9, 3) := by decide +kernel
theorem dX11_where_15 : decode cX11_where 15 = .ok (.iload_n 2, 1) := by decide +kernel
theorem dX11_where_16 : decode cX11_where 16 = .ok (.bipush 60, 2) := by decide +kernel
theorem dX11_where_18 : decode cX11_where 18 = .ok (.if_icmp .le 5, 3) := by decide +kernel
theorem dX11_where_21 : decode cX11_where 21 = .ok (.iconst (-1), 1) := by decide +kernel
theorem dX11_where_22 : decode cX11_where 22 = .ok (.ireturn, 1) := by decide +kernel
theorem dX11_where_23 : decode cX11_where 23 = .ok (.aload_n 0, 1) := by decide +kernel
theorem dX11_where_24 : decode cX11_where 24 = .ok (.getfield 56, 3) := by decide +kernel
theorem dX11_where_27 : decode cX11_where 27 = .ok (.aload_n 0, 1) := by decide +kernel
theorem dX11_where_28 : decode cX11_where 28 = .ok (.getfield 52, 3) := by decide +kernel
theorem dX11_where_31 : decode cX11_where 31 = .ok (.invokevirtual 322, 3) := by decide +kernel
theorem dX11_where_34 : decode cX11_where 34 = .ok (.iconst 0, 1) := by decide +kernel
theorem dX11_where_35 : decode cX11_where 35 = .ok (.istore_n 3, 1) := by decide +kernel
theorem dX11_where_36 : decode cX11_where 36 = .ok (.iload_n 3, 1) := by decide +kernel
theorem dX11_where_37 : decode cX11_where 37 = .ok (.iload_n 2, 1) := by decide +kernel
theorem dX11_where_38 : decode cX11_where 38 = .ok (.if_icmp .ge 21, 3) := by decide +kernel
theorem dX11_where_41 : decode cX11_where 41 = .ok (.aload_n 0, 1) := by decide +kernel
theorem dX11_where_42 : decode cX11_where 42 = .ok (.getfield 64, 3) := by decide +kernel
theorem dX11_where_45 : decode cX11_where 45 = .ok (.aload_n 0, 1) := by decide +kernel
theorem dX11_where_46 : decode cX11_where 46 = .ok (.getfield 56, 3) := by decide +kernel
theorem dX11_where_49 : decode cX11_where 49 = .ok (.invokevirtual 258, 3) := by decide +kernel
theorem dX11_where_52 : decode cX11_where 52 = .ok (.pop, 1) := by decide +kernel
theorem dX11_where_53 : decode cX11_where 53 = .ok (.iinc 3 1, 3) := by decide +kernel
theorem dX11_where_56 : decode cX11_where 56 = .ok (.goto (-20), 3) := by decide +kernel
theorem dX11_where_59 : decode cX11_where 59 = .ok (.aload_n 0, 1) := by decide +kernel
theorem dX11_where_60 : decode cX11_where 60 = .ok (.getfield 56, 3) := by decide +kernel
theorem dX11_where_63 : decode cX11_where 63 = .ok (.getfield 215, 3) := by decide +kernel
theorem dX11_where_66 : decode cX11_where 66 = .ok (.iload_n 1, 1) := by decide +kernel
theorem dX11_where_67 : decode cX11_where 67 = .ok (.iaload, 1) := by decide +kernel
theorem dX11_where_68 : decode cX11_where 68 = .ok (.ireturn, 1) := by decide +kernel
theorem dX11_done_0 : decode cX11_done 0 = .ok (.aload_n 0, 1) := by decide +kernel
theorem dX11_done_1 : decode cX11_done 1 = .ok (.getfield 19, 3) := by decide +kernel
theorem dX11_done_4 : decode cX11_done 4 = .ok (.iload_n 1, 1) := by decide +kernel
theorem dX11_done_5 : decode cX11_done 5 = .ok (.invokevirtual 209, 3) := by decide +kernel
theorem dX11_done_8 : decode cX11_done 8 = .ok (.ifCond .ne 5, 3) := by decide +kernel
theorem dX11_done_11 : decode cX11_done 11 = .ok (.iconst (-1), 1) := by decide +kernel
theorem dX11_done_12 : decode cX11_done 12 = .ok (.ireturn, 1) := by decide +kernel
theorem dX11_done_13 : decode cX11_done 13 = .ok (.aload_n 0, 1) := by decide +kernel
theorem dX11_done_14 : decode cX11_done 14 = .ok (.getfield 56, 3) := by decide +kernel
theorem dX11_done_17 : decode cX11_done 17 = .ok (.aload_n 0, 1) := by decide +kernel
theorem dX11_done_18 : decode cX11_done 18 = .ok (.getfield 52, 3) := by decide +kernel
theorem dX11_done_21 : decode cX11_done 21 = .ok (.invokevirtual 322, 3) := by decide +kernel
theorem dX11_done_24 : decode cX11_done 24 = .ok (.iconst 0, 1) := by decide +kernel
theorem dX11_done_25 : decode cX11_done 25 = .ok (.istore_n 2, 1) := by decide +kernel
theorem dX11_done_26 : decode cX11_done 26 = .ok (.iload_n 2, 1) := by decide +kernel
theorem dX11_done_27 : decode cX11_done 27 = .ok (.bipush 60, 2) := by decide +kernel
theorem dX11_done_29 : decode cX11_done 29 = .ok (.if_icmp .gt 36, 3) := by decide +kernel
theorem dX11_done_32 : decode cX11_done 32 = .ok (.aload_n 0, 1) := by decide +kernel
theorem dX11_done_33 : decode cX11_done 33 = .ok (.getfield 56, 3) := by decide +kernel
theorem dX11_done_36 : decode cX11_done 36 = .ok (.getfield 218, 3) := by decide +kernel
theorem dX11_done_39 : decode cX11_done 39 = .ok (.iload_n 1, 1) := by decide +kernel
theorem dX11_done_40 : decode cX11_done 40 = .ok (.iaload, 1) := by decide +kernel
theorem dX11_done_41 : decode cX11_done 41 = .ok (.iconst (-1), 1) := by decide +kernel
theorem dX11_done_42 : decode cX11_done 42 = .ok (.if_icmp .ne 5, 3) := by decide +kernel
theorem dX11_done_45 : decode cX11_done 45 = .ok (.iload_n 2, 1) := by decide +kernel
theorem dX11_done_46 : decode cX11_done 46 = .ok (.ireturn, 1) := by decide +kernel
theorem dX11_done_47 : decode cX11_done 47 = .ok (.aload_n 0, 1) := by decide +kernel
theorem dX11_done_48 : decode cX11_done 48 = .ok (.getfield 64, 3) := by decide +kernel
theorem dX11_done_51 : decode cX11_done 51 = .ok (.aload_n 0, 1) := by decide +kernel
theorem dX11_done_52 : decode cX11_done 52 = .ok (.getfield 56, 3) := by decide +kernel
theorem dX11_done_55 : decode cX11_done 55 = .ok (.invokevirtual 258, 3) := by decide +kernel
theorem dX11_done_58 : decode cX11_done 58 = .ok (.pop, 1) := by decide +kernel
theorem dX11_done_59 : decode cX11_done 59 = .ok (.iinc 2 1, 3) := by decide +kernel
theorem dX11_done_62 : decode cX11_done 62 = .ok (.goto (-36), 3) := by decide +kernel
theorem dX11_done_65 : decode cX11_done 65 = .ok (.iconst (-1), 1) := by decide +kernel
theorem dX11_done_66 : decode cX11_done 66 = .ok (.ireturn, 1) := by decide +kernel
theorem dX11_parted_0 : decode cX11_parted 0 = .ok (.aload_n 0, 1) := by decide +kernel
theorem dX11_parted_1 : decode cX11_parted 1 = .ok (.getfield 19, 3) := by decide +kernel
theorem dX11_parted_4 : decode cX11_parted 4 = .ok (.iload_n 1, 1) := by decide +kernel
theorem dX11_parted_5 : decode cX11_parted 5 = .ok (.iload_n 2, 1) := by decide +kernel
theorem dX11_parted_6 : decode cX11_parted 6 = .ok (.invokevirtual 308, 3) := by decide +kernel
theorem dX11_parted_9 : decode cX11_parted 9 = .ok (.ifCond .eq 8, 3) := by decide +kernel
theorem dX11_parted_12 : decode cX11_parted 12 = .ok (.iload_n 1, 1) := by decide +kernel
theorem dX11_parted_13 : decode cX11_parted 13 = .ok (.iload_n 2, 1) := by decide +kernel
theorem dX11_parted_14 : decode cX11_parted 14 = .ok (.if_icmp .ne 5, 3) := by decide +kernel
theorem dX11_parted_17 : decode cX11_parted 17 = .ok (.iconst (-1), 1) := by decide +kernel
theorem dX11_parted_18 : decode cX11_parted 18 = .ok (.ireturn, 1) := by decide +kernel
theorem dX11_parted_19 : decode cX11_parted 19 = .ok (.aload_n 0, 1) := by decide +kernel
theorem dX11_parted_20 : decode cX11_parted 20 = .ok (.getfield 80, 3) := by decide +kernel
theorem dX11_parted_23 : decode cX11_parted 23 = .ok (.iload_n 1, 1) := by decide +kernel
theorem dX11_parted_24 : decode cX11_parted 24 = .ok (.iload_n 2, 1) := by decide +kernel
theorem dX11_parted_25 : decode cX11_parted 25 = .ok (.aload_n 0, 1) := by decide +kernel
theorem dX11_parted_26 : decode cX11_parted 26 = .ok (.getfield 19, 3) := by decide +kernel
theorem dX11_parted_29 : decode cX11_parted 29 = .ok (.invokevirtual 324, 3) := by decide +kernel
theorem dX11_parted_32 : decode cX11_parted 32 = .ok (.aload_n 0, 1) := by decide +kernel
theorem dX11_parted_33 : decode cX11_parted 33 = .ok (.getfield 52, 3) := by decide +kernel
theorem dX11_parted_36 : decode cX11_parted 36 = .ok (.getfield 206, 3) := by decide +kernel
theorem dX11_parted_39 : decode cX11_parted 39 = .ok (.iconst (-1), 1) := by decide +kernel
theorem dX11_parted_40 : decode cX11_parted 40 = .ok (.ixor, 1) := by decide +kernel
theorem dX11_parted_41 : decode cX11_parted 41 = .ok (.iand, 1) := by decide +kernel
theorem dX11_parted_42 : decode cX11_parted 42 = .ok (.invokevirtual 327, 3) := by decide +kernel
theorem dX11_parted_45 : decode cX11_parted 45 = .ok (.ireturn, 1) := by decide +kernel
theorem dX11_joined_0 : decode cX11_joined 0 = .ok (.aload_n 0, 1) := by decide +kernel
theorem dX11_joined_1 : decode cX11_joined 1 = .ok (.getfield 19, 3) := by decide +kernel
theorem dX11_joined_4 : decode cX11_joined 4 = .ok (.iload_n 1, 1) := by decide +kernel
theorem dX11_joined_5 : decode cX11_joined 5 = .ok (.iload_n 2, 1) := by decide +kernel
theorem dX11_joined_6 : decode cX11_joined 6 = .ok (.invokevirtual 308, 3) := by decide +kernel
theorem dX11_joined_9 : decode cX11_joined 9 = .ok (.ifCond .eq 8, 3) := by decide +kernel
theorem dX11_joined_12 : decode cX11_joined 12 = .ok (.iload_n 1, 1) := by decide +kernel
theorem dX11_joined_13 : decode cX11_joined 13 = .ok (.iload_n 2, 1) := by decide +kernel
theorem dX11_joined_14 : decode cX11_joined 14 = .ok (.if_icmp .ne 5, 3) := by decide +kernel
theorem dX11_joined_17 : decode cX11_joined 17 = .ok (.iconst (-1), 1) := by decide +kernel
theorem dX11_joined_18 : decode cX11_joined 18 = .ok (.ireturn, 1) := by decide +kernel
theorem dX11_joined_19 : decode cX11_joined 19 = .ok (.aload_n 0, 1) := by decide +kernel
theorem dX11_joined_20 : decode cX11_joined 20 = .ok (.getfield 80, 3) := by decide +kernel
theorem dX11_joined_23 : decode cX11_joined 23 = .ok (.iload_n 1, 1) := by decide +kernel
theorem dX11_joined_24 : decode cX11_joined 24 = .ok (.iload_n 2, 1) := by decide +kernel
theorem dX11_joined_25 : decode cX11_joined 25 = .ok (.aload_n 0, 1) := by decide +kernel
theorem dX11_joined_26 : decode cX11_joined 26 = .ok (.getfield 19, 3) := by decide +kernel
theorem dX11_joined_29 : decode cX11_joined 29 = .ok (.invokevirtual 324, 3) := by decide +kernel
theorem dX11_joined_32 : decode cX11_joined 32 = .ok (.aload_n 0, 1) := by decide +kernel
theorem dX11_joined_33 : decode cX11_joined 33 = .ok (.getfield 52, 3) := by decide +kernel
theorem dX11_joined_36 : decode cX11_joined 36 = .ok (.getfield 206, 3) := by decide +kernel
theorem dX11_joined_39 : decode cX11_joined 39 = .ok (.iconst (-1), 1) := by decide +kernel
theorem dX11_joined_40 : decode cX11_joined 40 = .ok (.ixor, 1) := by decide +kernel
theorem dX11_joined_41 : decode cX11_joined 41 = .ok (.iand, 1) := by decide +kernel
theorem dX11_joined_42 : decode cX11_joined 42 = .ok (.invokevirtual 331, 3) := by decide +kernel
theorem dX11_joined_45 : decode cX11_joined 45 = .ok (.ireturn, 1) := by decide +kernel
theorem dX11_seen_0 : decode cX11_seen 0 = .ok (.aload_n 0, 1) := by decide +kernel
theorem dX11_seen_1 : decode cX11_seen 1 = .ok (.getfield 19, 3) := by decide +kernel
theorem dX11_seen_4 : decode cX11_seen 4 = .ok (.iload_n 1, 1) := by decide +kernel
theorem dX11_seen_5 : decode cX11_seen 5 = .ok (.invokevirtual 209, 3) := by decide +kernel
theorem dX11_seen_8 : decode cX11_seen 8 = .ok (.ifCond .eq 25, 3) := by decide +kernel
theorem dX11_seen_11 : decode cX11_seen 11 = .ok (.aload_n 0, 1) := by decide +kernel
theorem dX11_seen_12 : decode cX11_seen 12 = .ok (.getfield 19, 3) := by decide +kernel
theorem dX11_seen_15 : decode cX11_seen 15 = .ok (.iload_n 2, 1) := by decide +kernel
theorem dX11_seen_16 : decode cX11_seen 16 = .ok (.invokevirtual 224, 3) := by decide +kernel
theorem dX11_seen_19 : decode cX11_seen 19 = .ok (.ifCond .eq 14, 3) := by decide +kernel
theorem dX11_seen_22 : decode cX11_seen 22 = .ok (.iload_n 3, 1) := by decide +kernel
theorem dX11_seen_23 : decode cX11_seen 23 = .ok (.iconst 1, 1) := by decide +kernel
theorem dX11_seen_24 : decode cX11_seen 24 = .ok (.if_icmp .lt 9, 3) := by decide +kernel
theorem dX11_seen_27 : decode cX11_seen 27 = .ok (.iload_n 3, 1) := by decide +kernel
theorem dX11_seen_28 : decode cX11_seen 28 = .ok (.bipush 9, 2) := by decide +kernel
theorem dX11_seen_30 : decode cX11_seen 30 = .ok (.if_icmp .le 5, 3) := by decide +kernel
theorem dX11_seen_33 : decode cX11_seen 33 = .ok (.iconst (-1), 1) := by decide +kernel
theorem dX11_seen_34 : decode cX11_seen 34 = .ok (.ireturn, 1) := by decide +kernel
theorem dX11_seen_35 : decode cX11_seen 35 = .ok (.aload_n 0, 1) := by decide +kernel
theorem dX11_seen_36 : decode cX11_seen 36 = .ok (.getfield 89, 3) := by decide +kernel
theorem dX11_seen_39 : decode cX11_seen 39 = .ok (.iload_n 1, 1) := by decide +kernel
theorem dX11_seen_40 : decode cX11_seen 40 = .ok (.iload_n 2, 1) := by decide +kernel
theorem dX11_seen_41 : decode cX11_seen 41 = .ok (.iload_n 3, 1) := by decide +kernel
theorem dX11_seen_42 : decode cX11_seen 42 = .ok (.iload 4, 2) := by decide +kernel
theorem dX11_seen_44 : decode cX11_seen 44 = .ok (.invokevirtual 334, 3) := by decide +kernel
theorem dX11_seen_47 : decode cX11_seen 47 = .ok (.ireturn, 1) := by decide +kernel
theorem dX11_fits_0 : decode cX11_fits 0 = .ok (.aload_n 0, 1) := by decide +kernel
theorem dX11_fits_1 : decode cX11_fits 1 = .ok (.getfield 19, 3) := by decide +kernel
theorem dX11_fits_4 : decode cX11_fits 4 = .ok (.iload_n 1, 1) := by decide +kernel
theorem dX11_fits_5 : decode cX11_fits 5 = .ok (.invokevirtual 209, 3) := by decide +kernel
theorem dX11_fits_8 : decode cX11_fits 8 = .ok (.ifCond .eq 14, 3) := by decide +kernel
theorem dX11_fits_11 : decode cX11_fits 11 = .ok (.aload_n 0, 1) := by decide +kernel
theorem dX11_fits_12 : decode cX11_fits 12 = .ok (.getfield 89, 3) := by decide +kernel
theorem dX11_fits_15 : decode cX11_fits 15 = .ok (.iload_n 1, 1) := by decide +kernel
theorem dX11_fits_16 : decode cX11_fits 16 = .ok (.invokevirtual 337, 3) := by decide +kernel
theorem dX11_fits_19 : decode cX11_fits 19 = .ok (.goto 4, 3) := by decide +kernel
theorem dX11_fits_22 : decode cX11_fits 22 = .ok (.iconst (-1), 1) := by decide +kernel
theorem dX11_fits_23 : decode cX11_fits 23 = .ok (.ireturn, 1) := by decide +kernel
theorem dX11_ask_0 : decode cX11_ask 0 = .ok (.aload_n 0, 1) := by decide +kernel
theorem dX11_ask_1 : decode cX11_ask 1 = .ok (.getfield 19, 3) := by decide +kernel
theorem dX11_ask_4 : decode cX11_ask 4 = .ok (.iload_n 1, 1) := by decide +kernel
theorem dX11_ask_5 : decode cX11_ask 5 = .ok (.invokevirtual 209, 3) := by decide +kernel
theorem dX11_ask_8 : decode cX11_ask 8 = .ok (.ifCond .eq 14, 3) := by decide +kernel
theorem dX11_ask_11 : decode cX11_ask 11 = .ok (.aload_n 0, 1) := by decide +kernel
theorem dX11_ask_12 : decode cX11_ask 12 = .ok (.getfield 89, 3) := by decide +kernel
theorem dX11_ask_15 : decode cX11_ask 15 = .ok (.iload_n 1, 1) := by decide +kernel
theorem dX11_ask_16 : decode cX11_ask 16 = .ok (.invokevirtual 337, 3) := by decide +kernel
theorem dX11_ask_19 : decode cX11_ask 19 = .ok (.goto 4, 3) := by decide +kernel
theorem dX11_ask_22 : decode cX11_ask 22 = .ok (.iconst 0, 1) := by decide +kernel
theorem dX11_ask_23 : decode cX11_ask 23 = .ok (.istore_n 2, 1) := by decide +kernel
theorem dX11_ask_24 : decode cX11_ask 24 = .ok (.iload_n 2, 1) := by decide +kernel
theorem dX11_ask_25 : decode cX11_ask 25 = .ok (.ifCond .ne 7, 3) := by decide +kernel
theorem dX11_ask_28 : decode cX11_ask 28 = .ok (.iconst (-1), 1) := by decide +kernel
theorem dX11_ask_29 : decode cX11_ask 29 = .ok (.goto 11, 3) := by decide +kernel
theorem dX11_ask_32 : decode cX11_ask 32 = .ok (.aload_n 0, 1) := by decide +kernel
theorem dX11_ask_33 : decode cX11_ask 33 = .ok (.getfield 89, 3) := by decide +kernel
theorem dX11_ask_36 : decode cX11_ask 36 = .ok (.iload_n 2, 1) := by decide +kernel
theorem dX11_ask_37 : decode cX11_ask 37 = .ok (.invokevirtual 340, 3) := by decide +kernel
theorem dX11_ask_40 : decode cX11_ask 40 = .ok (.ireturn, 1) := by decide +kernel
theorem dX11_tour_0 : decode cX11_tour 0 = .ok (.aload_n 0, 1) := by decide +kernel
theorem dX11_tour_1 : decode cX11_tour 1 = .ok (.getfield 19, 3) := by decide +kernel
theorem dX11_tour_4 : decode cX11_tour 4 = .ok (.iload_n 1, 1) := by decide +kernel
theorem dX11_tour_5 : decode cX11_tour 5 = .ok (.invokevirtual 224, 3) := by decide +kernel
theorem dX11_tour_8 : decode cX11_tour 8 = .ok (.ifCond .eq 23, 3) := by decide +kernel
theorem dX11_tour_11 : decode cX11_tour 11 = .ok (.aload_n 0, 1) := by decide +kernel
theorem dX11_tour_12 : decode cX11_tour 12 = .ok (.getfield 19, 3) := by decide +kernel
theorem dX11_tour_15 : decode cX11_tour 15 = .ok (.iload_n 2, 1) := by decide +kernel
theorem dX11_tour_16 : decode cX11_tour 16 = .ok (.invokevirtual 343, 3) := by decide +kernel
theorem dX11_tour_19 : decode cX11_tour 19 = .ok (.ifCond .eq 12, 3) := by decide +kernel
theorem dX11_tour_22 : decode cX11_tour 22 = .ok (.iload_n 3, 1) := by decide +kernel
theorem dX11_tour_23 : decode cX11_tour 23 = .ok (.ifCond .lt 8, 3) := by decide +kernel
theorem dX11_tour_26 : decode cX11_tour 26 = .ok (.iload_n 3, 1) := by decide +kernel
theorem dX11_tour_27 : decode cX11_tour 27 = .ok (.iconst 1, 1) := by decide +kernel
theorem dX11_tour_28 : decode cX11_tour 28 = .ok (.if_icmp .le 5, 3) := by decide +kernel
theorem dX11_tour_31 : decode cX11_tour 31 = .ok (.iconst (-1), 1) := by decide +kernel
theorem dX11_tour_32 : decode cX11_tour 32 = .ok (.ireturn, 1) := by decide +kernel
theorem dX11_tour_33 : decode cX11_tour 33 = .ok (.aload_n 0, 1) := by decide +kernel
theorem dX11_tour_34 : decode cX11_tour 34 = .ok (.getfield 80, 3) := by decide +kernel
theorem dX11_tour_37 : decode cX11_tour 37 = .ok (.aload_n 0, 1) := by decide +kernel
theorem dX11_tour_38 : decode cX11_tour 38 = .ok (.getfield 52, 3) := by decide +kernel
theorem dX11_tour_41 : decode cX11_tour 41 = .ok (.invokevirtual 312, 3) := by decide +kernel
theorem dX11_tour_44 : decode cX11_tour 44 = .ok (.aload_n 0, 1) := by decide +kernel
theorem dX11_tour_45 : decode cX11_tour 45 = .ok (.getfield 98, 3) := by decide +kernel
theorem dX11_tour_48 : decode cX11_tour 48 = .ok (.iload_n 1, 1) := by decide +kernel
theorem dX11_tour_49 : decode cX11_tour 49 = .ok (.iload_n 2, 1) := by decide +kernel
theorem dX11_tour_50 : decode cX11_tour 50 = .ok (.invokevirtual 346, 3) := by decide +kernel
theorem dX11_tour_53 : decode cX11_tour 53 = .ok (.ifCond .ne 5, 3) := by decide +kernel
theorem dX11_tour_56 : decode cX11_tour 56 = .ok (.iconst (-1), 1) := by decide +kernel
theorem dX11_tour_57 : decode cX11_tour 57 = .ok (.ireturn, 1) := by decide +kernel
theorem dX11_tour_58 : decode cX11_tour 58 = .ok (.iload_n 3, 1) := by decide +kernel
theorem dX11_tour_59 : decode cX11_tour 59 = .ok (.ifCond .ne 13, 3) := by decide +kernel
theorem dX11_tour_62 : decode cX11_tour 62 = .ok (.aload_n 0, 1) := by decide +kernel
theorem dX11_tour_63 : decode cX11_tour 63 = .ok (.getfield 98, 3) := by decide +kernel
theorem dX11_tour_66 : decode cX11_tour 66 = .ok (.getfield 349, 3) := by decide +kernel
theorem dX11_tour_69 : decode cX11_tour 69 = .ok (.goto 10, 3) := by decide +kernel
theorem dX11_tour_72 : decode cX11_tour 72 = .ok (.aload_n 0, 1) := by decide +kernel
theorem dX11_tour_73 : decode cX11_tour 73 = .ok (.getfield 98, 3) := by decide +kernel
theorem dX11_tour_76 : decode cX11_tour 76 = .ok (.getfield 352, 3) := by decide +kernel
theorem dX11_tour_79 : decode cX11_tour 79 = .ok (.ireturn, 1) := by decide +kernel
theorem dX11_doors_0 : decode cX11_doors 0 = .ok (.aload_n 0, 1) := by decide +kernel
theorem dX11_doors_1 : decode cX11_doors 1 = .ok (.getfield 19, 3) := by decide +kernel
theorem dX11_doors_4 : decode cX11_doors 4 = .ok (.iload_n 1, 1) := by decide +kernel
theorem dX11_doors_5 : decode cX11_doors 5 = .ok (.invokevirtual 343, 3) := by decide +kernel
theorem dX11_doors_8 : decode cX11_doors 8 = .ok (.ifCond .eq 12, 3) := by decide +kernel
theorem dX11_doors_11 : decode cX11_doors 11 = .ok (.iload_n 2, 1) := by decide +kernel
theorem dX11_doors_12 : decode cX11_doors 12 = .ok (.ifCond .lt 8, 3) := by decide +kernel
theorem dX11_doors_15 : decode cX11_doors 15 = .ok (.iload_n 2, 1) := by decide +kernel
theorem dX11_doors_16 : decode cX11_doors 16 = .ok (.iconst 1, 1) := by decide +kernel
theorem dX11_doors_17 : decode cX11_doors 17 = .ok (.if_icmp .le 5, 3) := by decide +kernel
theorem dX11_doors_20 : decode cX11_doors 20 = .ok (.iconst (-1), 1) := by decide +kernel
theorem dX11_doors_21 : decode cX11_doors 21 = .ok (.ireturn, 1) := by decide +kernel
theorem dX11_doors_22 : decode cX11_doors 22 = .ok (.aload_n 0, 1) := by decide +kernel
theorem dX11_doors_23 : decode cX11_doors 23 = .ok (.getfield 80, 3) := by decide +kernel
theorem dX11_doors_26 : decode cX11_doors 26 = .ok (.aload_n 0, 1) := by decide +kernel
theorem dX11_doors_27 : decode cX11_doors 27 = .ok (.getfield 52, 3) := by decide +kernel
theorem dX11_doors_30 : decode cX11_doors 30 = .ok (.invokevirtual 312, 3) := by decide +kernel
theorem dX11_doors_33 : decode cX11_doors 33 = .ok (.aload_n 0, 1) := by decide +kernel
theorem dX11_doors_34 : decode cX11_doors 34 = .ok (.getfield 98, 3) := by decide +kernel
theorem dX11_doors_37 : decode cX11_doors 37 = .ok (.iload_n 1, 1) := by decide +kernel
theorem dX11_doors_38 : decode cX11_doors 38 = .ok (.invokevirtual 355, 3) := by decide +kernel
theorem dX11_doors_41 : decode cX11_doors 41 = .ok (.iload_n 2, 1) := by decide +kernel
theorem dX11_doors_42 : decode cX11_doors 42 = .ok (.ifCond .ne 13, 3) := by decide +kernel
theorem dX11_doors_45 : decode cX11_doors 45 = .ok (.aload_n 0, 1) := by decide +kernel
theorem dX11_doors_46 : decode cX11_doors 46 = .ok (.getfield 98, 3) := by decide +kernel
theorem dX11_doors_49 : decode cX11_doors 49 = .ok (.getfield 352, 3) := by decide +kernel
theorem dX11_doors_52 : decode cX11_doors 52 = .ok (.goto 10, 3) := by decide +kernel
theorem dX11_doors_55 : decode cX11_doors 55 = .ok (.aload_n 0, 1) := by decide +kernel
theorem dX11_doors_56 : decode cX11_doors 56 = .ok (.getfield 98, 3) := by decide +kernel
theorem dX11_doors_59 : decode cX11_doors 59 = .ok (.getfield 349, 3) := by decide +kernel
theorem dX11_doors_62 : decode cX11_doors 62 = .ok (.ireturn, 1) := by decide +kernel
theorem dX11_game_0 : decode cX11_game 0 = .ok (.aload_n 0, 1) := by decide +kernel
theorem dX11_game_1 : decode cX11_game 1 = .ok (.getfield 19, 3) := by decide +kernel
theorem dX11_game_4 : decode cX11_game 4 = .ok (.iload_n 1, 1) := by decide +kernel
theorem dX11_game_5 : decode cX11_game 5 = .ok (.iload_n 2, 1) := by decide +kernel
theorem dX11_game_6 : decode cX11_game 6 = .ok (.invokevirtual 358, 3) := by decide +kernel
theorem dX11_game_9 : decode cX11_game 9 = .ok (.ifCond .eq 14, 3) := by decide +kernel
theorem dX11_game_12 : decode cX11_game 12 = .ok (.iload 5, 2) := by decide +kernel
theorem dX11_game_14 : decode cX11_game 14 = .ok (.ifCond .lt 9, 3) := by decide +kernel
theorem dX11_game_17 : decode cX11_game 17 = .ok (.iload 5, 2) := by decide +kernel
theorem dX11_game_19 : decode cX11_game 19 = .ok (.iconst 1, 1) := by decide +kernel
theorem dX11_game_20 : decode cX11_game 20 = .ok (.if_icmp .le 7, 3) := by decide +kernel
theorem dX11_game_23 : decode cX11_game 23 = .ok (.ldc_w 361, 3) := by decide +kernel
theorem dX11_game_26 : decode cX11_game 26 = .ok (.ireturn, 1) := by decide +kernel
theorem dX11_game_27 : decode cX11_game 27 = .ok (.iload_n 3, 1) := by decide +kernel
theorem dX11_game_28 : decode cX11_game 28 = .ok (.ifCond .lt 21, 3) := by decide +kernel
theorem dX11_game_31 : decode cX11_game 31 = .ok (.iload_n 3, 1) := by decide +kernel
theorem dX11_game_32 : decode cX11_game 32 = .ok (.bipush 7, 2) := by decide +kernel
theorem dX11_game_34 : decode cX11_game 34 = .ok (.if_icmp .ge 15, 3) := by decide +kernel
theorem dX11_game_37 : decode cX11_game 37 = .ok (.iload 4, 2) := by decide +kernel
theorem dX11_game_39 : decode cX11_game 39 = .ok (.ifCond .lt 10, 3) := by decide +kernel
theorem dX11_game_42 : decode cX11_game 42 = .ok (.iload 4, 2) := by decide +kernel
theorem dX11_game_44 : decode cX11_game 44 = .ok (.bipush 7, 2) := by decide +kernel
theorem dX11_game_46 : decode cX11_game 46 = .ok (.if_icmp .lt 7, 3) := by decide +kernel
theorem dX11_game_49 : decode cX11_game 49 = .ok (.ldc_w 361, 3) := by decide +kernel
theorem dX11_game_52 : decode cX11_game 52 = .ok (.ireturn, 1) := by decide +kernel
theorem dX11_game_53 : decode cX11_game 53 = .ok (.aload_n 0, 1) := by decide +kernel
theorem dX11_game_54 : decode cX11_game 54 = .ok (.getfield 80, 3) := by decide +kernel
theorem dX11_game_57 : decode cX11_game 57 = .ok (.aload_n 0, 1) := by decide +kernel
theorem dX11_game_58 : decode cX11_game 58 = .ok (.getfield 52, 3) := by decide +kernel
theorem dX11_game_61 : decode cX11_game 61 = .ok (.invokevirtual 312, 3) := by decide +kernel
theorem dX11_game_64 : decode cX11_game 64 = .ok (.iload 5, 2) := by decide +kernel
theorem dX11_game_66 : decode cX11_game 66 = .ok (.ifCond .ne 26, 3) := by decide +kernel
theorem dX11_game_69 : decode cX11_game 69 = .ok (.aload_n 0, 1) := by decide +kernel
theorem dX11_game_70 : decode cX11_game 70 = .ok (.getfield 98, 3) := by decide +kernel
theorem dX11_game_73 : decode cX11_game 73 = .ok (.iload_n 1, 1) := by decide +kernel
theorem dX11_game_74 : decode cX11_game 74 = .ok (.iload_n 3, 1) := by decide +kernel
theorem dX11_game_75 : decode cX11_game 75 = .ok (.iload_n 3, 1) := by decide +kernel
theorem dX11_game_76 : decode cX11_game 76 = .ok (.iload 4, 2) := by decide +kernel
theorem dX11_game_78 : decode cX11_game 78 = .ok (.if_icmp .ne 7, 3) := by decide +kernel
theorem dX11_game_81 : decode cX11_game 81 = .ok (.iconst 1, 1) := by decide +kernel
theorem dX11_game_82 : decode cX11_game 82 = .ok (.goto 4, 3) := by decide +kernel
theorem dX11_game_85 : decode cX11_game 85 = .ok (.iconst 0, 1) := by decide +kernel
theorem dX11_game_86 : decode cX11_game 86 = .ok (.invokevirtual 362, 3) := by decide +kernel
theorem dX11_game_89 : decode cX11_game 89 = .ok (.goto 24, 3) := by decide +kernel
theorem dX11_game_92 : decode cX11_game 92 = .ok (.aload_n 0, 1) := by decide +kernel
theorem dX11_game_93 : decode cX11_game 93 = .ok (.getfield 98, 3) := by decide +kernel
theorem dX11_game_96 : decode cX11_game 96 = .ok (.iload_n 2, 1) := by decide +kernel
theorem dX11_game_97 : decode cX11_game 97 = .ok (.iload 4, 2) := by decide +kernel
theorem dX11_game_99 : decode cX11_game 99 = .ok (.iload_n 3, 1) := by decide +kernel
theorem dX11_game_100 : decode cX11_game 100 = .ok (.iload 4, 2) := by decide +kernel
theorem dX11_game_102 : decode cX11_game 102 = .ok (.if_icmp .ne 7, 3) := by decide +kernel
theorem dX11_game_105 : decode cX11_game 105 = .ok (.iconst 1, 1) := by decide +kernel
theorem dX11_game_106 : decode cX11_game 106 = .ok (.goto 4, 3) := by decide +kernel
theorem dX11_game_109 : decode cX11_game 109 = .ok (.iconst 0, 1) := by decide +kernel
theorem dX11_game_110 : decode cX11_game 110 = .ok (.invokevirtual 362, 3) := by decide +kernel
theorem dX11_game_113 : decode cX11_game 113 = .ok (.ireturn, 1) := by decide +kernel
theorem dX11_rests_0 : decode cX11_rests 0 = .ok (.aload_n 0, 1) := by decide +kernel
theorem dX11_rests_1 : decode cX11_rests 1 = .ok (.getfield 19, 3) := by decide +kernel
theorem dX11_rests_4 : decode cX11_rests 4 = .ok (.iload_n 1, 1) := by decide +kernel
theorem dX11_rests_5 : decode cX11_rests 5 = .ok (.iload_n 2, 1) := by decide +kernel
theorem dX11_rests_6 : decode cX11_rests 6 = .ok (.invokevirtual 358, 3) := by decide +kernel
theorem dX11_rests_9 : decode cX11_rests 9 = .ok (.ifCond .eq 8, 3) := by decide +kernel
theorem dX11_rests_12 : decode cX11_rests 12 = .ok (.iload_n 3, 1) := by decide +kernel
theorem dX11_rests_13 : decode cX11_rests 13 = .ok (.iconst (-1), 1) := by decide +kernel
theorem dX11_rests_14 : decode cX11_rests 14 = .ok (.if_icmp .ge 5, 3) := by decide +kernel
theorem dX11_rests_17 : decode cX11_rests 17 = .ok (.iconst (-1), 1) := by decide +kernel
theorem dX11_rests_18 : decode cX11_rests 18 = .ok (.ireturn, 1) := by decide +kernel
theorem dX11_rests_19 : decode cX11_rests 19 = .ok (.aload_n 0, 1) := by decide +kernel
theorem dX11_rests_20 : decode cX11_rests 20 = .ok (.getfield 80, 3) := by decide +kernel
theorem dX11_rests_23 : decode cX11_rests 23 = .ok (.aload_n 0, 1) := by decide +kernel
theorem dX11_rests_24 : decode cX11_rests 24 = .ok (.getfield 52, 3) := by decide +kernel
theorem dX11_rests_27 : decode cX11_rests 27 = .ok (.invokevirtual 312, 3) := by decide +kernel
theorem dX11_rests_30 : decode cX11_rests 30 = .ok (.iload_n 3, 1) := by decide +kernel
theorem dX11_rests_31 : decode cX11_rests 31 = .ok (.iconst (-1), 1) := by decide +kernel
theorem dX11_rests_32 : decode cX11_rests 32 = .ok (.if_icmp .ne 15, 3) := by decide +kernel
theorem dX11_rests_35 : decode cX11_rests 35 = .ok (.aload_n 0, 1) := by decide +kernel
theorem dX11_rests_36 : decode cX11_rests 36 = .ok (.getfield 98, 3) := by decide +kernel
theorem dX11_rests_39 : decode cX11_rests 39 = .ok (.iload_n 1, 1) := by decide +kernel
theorem dX11_rests_40 : decode cX11_rests 40 = .ok (.iload_n 2, 1) := by decide +kernel
theorem dX11_rests_41 : decode cX11_rests 41 = .ok (.invokevirtual 366, 3) := by decide +kernel
theorem dX11_rests_44 : decode cX11_rests 44 = .ok (.goto 13, 3) := by decide +kernel
theorem dX11_rests_47 : decode cX11_rests 47 = .ok (.aload_n 0, 1) := by decide +kernel
theorem dX11_rests_48 : decode cX11_rests 48 = .ok (.getfield 98, 3) := by decide +kernel
theorem dX11_rests_51 : decode cX11_rests 51 = .ok (.iload_n 1, 1) := by decide +kernel
theorem dX11_rests_52 : decode cX11_rests 52 = .ok (.iload_n 2, 1) := by decide +kernel
theorem dX11_rests_53 : decode cX11_rests 53 = .ok (.iload_n 3, 1) := by decide +kernel
theorem dX11_rests_54 : decode cX11_rests 54 = .ok (.invokevirtual 369, 3) := by decide +kernel
theorem dX11_rests_57 : decode cX11_rests 57 = .ok (.ireturn, 1) := by decide +kernel
theorem dX11_odds_0 : decode cX11_odds 0 = .ok (.aload_n 0, 1) := by decide +kernel
theorem dX11_odds_1 : decode cX11_odds 1 = .ok (.getfield 19, 3) := by decide +kernel
theorem dX11_odds_4 : decode cX11_odds 4 = .ok (.iload_n 1, 1) := by decide +kernel
theorem dX11_odds_5 : decode cX11_odds 5 = .ok (.iload_n 2, 1) := by decide +kernel
theorem dX11_odds_6 : decode cX11_odds 6 = .ok (.invokevirtual 308, 3) := by decide +kernel
theorem dX11_odds_9 : decode cX11_odds 9 = .ok (.ifCond .eq 13, 3) := by decide +kernel
theorem dX11_odds_12 : decode cX11_odds 12 = .ok (.iload_n 3, 1) := by decide +kernel
theorem dX11_odds_13 : decode cX11_odds 13 = .ok (.ifCond .lt 9, 3) := by decide +kernel
theorem dX11_odds_16 : decode cX11_odds 16 = .ok (.iload_n 3, 1) := by decide +kernel
theorem dX11_odds_17 : decode cX11_odds 17 = .ok (.bipush 100, 2) := by decide +kernel
theorem dX11_odds_19 : decode cX11_odds 19 = .ok (.if_icmp .le 5, 3) := by decide +kernel
theorem dX11_odds_22 : decode cX11_odds 22 = .ok (.iconst (-1), 1) := by decide +kernel
theorem dX11_odds_23 : decode cX11_odds 23 = .ok (.ireturn, 1) := by decide +kernel
theorem dX11_odds_24 : decode cX11_odds 24 = .ok (.aload_n 0, 1) := by decide +kernel
theorem dX11_odds_25 : decode cX11_odds 25 = .ok (.getfield 80, 3) := by decide +kernel
theorem dX11_odds_28 : decode cX11_odds 28 = .ok (.iload_n 1, 1) := by decide +kernel
theorem dX11_odds_29 : decode cX11_odds 29 = .ok (.iload_n 2, 1) := by decide +kernel
theorem dX11_odds_30 : decode cX11_odds 30 = .ok (.iload_n 3, 1) := by decide +kernel
theorem dX11_odds_31 : decode cX11_odds 31 = .ok (.aload_n 0, 1) := by decide +kernel
theorem dX11_odds_32 : decode cX11_odds 32 = .ok (.getfield 19, 3) := by decide +kernel
theorem dX11_odds_35 : decode cX11_odds 35 = .ok (.invokevirtual 324, 3) := by decide +kernel
theorem dX11_odds_38 : decode cX11_odds 38 = .ok (.aload_n 0, 1) := by decide +kernel
theorem dX11_odds_39 : decode cX11_odds 39 = .ok (.getfield 52, 3) := by decide +kernel
theorem dX11_odds_42 : decode cX11_odds 42 = .ok (.getfield 206, 3) := by decide +kernel
theorem dX11_odds_45 : decode cX11_odds 45 = .ok (.iconst (-1), 1) := by decide +kernel
theorem dX11_odds_46 : decode cX11_odds 46 = .ok (.ixor, 1) := by decide +kernel
theorem dX11_odds_47 : decode cX11_odds 47 = .ok (.iand, 1) := by decide +kernel
theorem dX11_odds_48 : decode cX11_odds 48 = .ok (.invokevirtual 372, 3) := by decide +kernel
theorem dX11_odds_51 : decode cX11_odds 51 = .ok (.ireturn, 1) := by decide +kernel
theorem dX11_dead_0 : decode cX11_dead 0 = .ok (.aload_n 0, 1) := by decide +kernel
theorem dX11_dead_1 : decode cX11_dead 1 = .ok (.getfield 19, 3) := by decide +kernel
theorem dX11_dead_4 : decode cX11_dead 4 = .ok (.iload_n 1, 1) := by decide +kernel
theorem dX11_dead_5 : decode cX11_dead 5 = .ok (.invokevirtual 224, 3) := by decide +kernel
theorem dX11_dead_8 : decode cX11_dead 8 = .ok (.ifCond .ne 5, 3) := by decide +kernel
theorem dX11_dead_11 : decode cX11_dead 11 = .ok (.iconst (-1), 1) := by decide +kernel
theorem dX11_dead_12 : decode cX11_dead 12 = .ok (.ireturn, 1) := by decide +kernel
theorem dX11_dead_13 : decode cX11_dead 13 = .ok (.aload_n 0, 1) := by decide +kernel
theorem dX11_dead_14 : decode cX11_dead 14 = .ok (.getfield 80, 3) := by decide +kernel
theorem dX11_dead_17 : decode cX11_dead 17 = .ok (.iload_n 1, 1) := by decide +kernel
theorem dX11_dead_18 : decode cX11_dead 18 = .ok (.aload_n 0, 1) := by decide +kernel
theorem dX11_dead_19 : decode cX11_dead 19 = .ok (.getfield 19, 3) := by decide +kernel
theorem dX11_dead_22 : decode cX11_dead 22 = .ok (.invokevirtual 324, 3) := by decide +kernel
theorem dX11_dead_25 : decode cX11_dead 25 = .ok (.aload_n 0, 1) := by decide +kernel
theorem dX11_dead_26 : decode cX11_dead 26 = .ok (.getfield 52, 3) := by decide +kernel
theorem dX11_dead_29 : decode cX11_dead 29 = .ok (.getfield 206, 3) := by decide +kernel
theorem dX11_dead_32 : decode cX11_dead 32 = .ok (.iconst (-1), 1) := by decide +kernel
theorem dX11_dead_33 : decode cX11_dead 33 = .ok (.ixor, 1) := by decide +kernel
theorem dX11_dead_34 : decode cX11_dead 34 = .ok (.iand, 1) := by decide +kernel
theorem dX11_dead_35 : decode cX11_dead 35 = .ok (.invokevirtual 376, 3) := by decide +kernel
theorem dX11_dead_38 : decode cX11_dead 38 = .ok (.istore_n 2, 1) := by decide +kernel
theorem dX11_dead_39 : decode cX11_dead 39 = .ok (.aload_n 0, 1) := by decide +kernel
theorem dX11_dead_40 : decode cX11_dead 40 = .ok (.getfield 19, 3) := by decide +kernel
theorem dX11_dead_43 : decode cX11_dead 43 = .ok (.getfield 169, 3) := by decide +kernel
theorem dX11_dead_46 : decode cX11_dead 46 = .ok (.iload_n 2, 1) := by decide +kernel
theorem dX11_dead_47 : decode cX11_dead 47 = .ok (.invokestatic 379, 3) := by decide +kernel
theorem dX11_dead_50 : decode cX11_dead 50 = .ok (.isub, 1) := by decide +kernel
theorem dX11_dead_51 : decode cX11_dead 51 = .ok (.ireturn, 1) := by decide +kernel
theorem dX11_shares_0 : decode cX11_shares 0 = .ok (.aload_n 0, 1) := by decide +kernel
theorem dX11_shares_1 : decode cX11_shares 1 = .ok (.getfield 19, 3) := by decide +kernel
theorem dX11_shares_4 : decode cX11_shares 4 = .ok (.iload_n 1, 1) := by decide +kernel
theorem dX11_shares_5 : decode cX11_shares 5 = .ok (.invokevirtual 224, 3) := by decide +kernel
theorem dX11_shares_8 : decode cX11_shares 8 = .ok (.ifCond .eq 14, 3) := by decide +kernel
theorem dX11_shares_11 : decode cX11_shares 11 = .ok (.iload_n 2, 1) := by decide +kernel
theorem dX11_shares_12 : decode cX11_shares 12 = .ok (.ifCond .lt 10, 3) := by decide +kernel
theorem dX11_shares_15 : decode cX11_shares 15 = .ok (.iload_n 2, 1) := by decide +kernel
theorem dX11_shares_16 : decode cX11_shares 16 = .ok (.sipush 999, 3) := by decide +kernel
theorem dX11_shares_19 : decode cX11_shares 19 = .ok (.if_icmp .le 5, 3) := by decide +kernel
theorem dX11_shares_22 : decode cX11_shares 22 = .ok (.iconst (-1), 1) := by decide +kernel
theorem dX11_shares_23 : decode cX11_shares 23 = .ok (.ireturn, 1) := by decide +kernel
theorem dX11_shares_24 : decode cX11_shares 24 = .ok (.iconst 0, 1) := by decide +kernel
theorem dX11_shares_25 : decode cX11_shares 25 = .ok (.istore_n 3, 1) := by decide +kernel
theorem dX11_shares_26 : decode cX11_shares 26 = .ok (.iconst 0, 1) := by decide +kernel
theorem dX11_shares_27 : decode cX11_shares 27 = .ok (.istore 4, 2) := by decide +kernel
theorem dX11_shares_29 : decode cX11_shares 29 = .ok (.iload 4, 2) := by decide +kernel
theorem dX11_shares_31 : decode cX11_shares 31 = .ok (.aload_n 0, 1) := by decide +kernel
theorem dX11_shares_32 : decode cX11_shares 32 = .ok (.getfield 19, 3) := by decide +kernel
theorem dX11_shares_35 : decode cX11_shares 35 = .ok (.getfield 169, 3) := by decide +kernel
theorem dX11_shares_38 : decode cX11_shares 38 = .ok (.if_icmp .ge 22, 3) := by decide +kernel
theorem dX11_shares_41 : decode cX11_shares 41 = .ok (.iload_n 3, 1) := by decide +kernel
theorem dX11_shares_42 : decode cX11_shares 42 = .ok (.aload_n 0, 1) := by decide +kernel
theorem dX11_shares_43 : decode cX11_shares 43 = .ok (.getfield 52, 3) := by decide +kernel
theorem dX11_shares_46 : decode cX11_shares 46 = .ok (.getfield 230, 3) := by decide +kernel
theorem dX11_shares_49 : decode cX11_shares 49 = .ok (.iload 4, 2) := by decide +kernel
theorem dX11_shares_51 : decode cX11_shares 51 = .ok (.iaload, 1) := by decide +kernel
theorem dX11_shares_52 : decode cX11_shares 52 = .ok (.iadd, 1) := by decide +kernel
theorem dX11_shares_53 : decode cX11_shares 53 = .ok (.istore_n 3, 1) := by decide +kernel
theorem dX11_shares_54 : decode cX11_shares 54 = .ok (.iinc 4 1, 3) := by decide +kernel
theorem dX11_shares_57 : decode cX11_shares 57 = .ok (.goto (-28), 3) := by decide +kernel
theorem dX11_shares_60 : decode cX11_shares 60 = .ok (.iload_n 3, 1) := by decide +kernel
theorem dX11_shares_61 : decode cX11_shares 61 = .ok (.ifCond .ne 7, 3) := by decide +kernel
theorem dX11_shares_64 : decode cX11_shares 64 = .ok (.iconst 0, 1) := by decide +kernel
theorem dX11_shares_65 : decode cX11_shares 65 = .ok (.goto 16, 3) := by decide +kernel
theorem dX11_shares_68 : decode cX11_shares 68 = .ok (.iload_n 2, 1) := by decide +kernel
theorem dX11_shares_69 : decode cX11_shares 69 = .ok (.aload_n 0, 1) := by decide +kernel
theorem dX11_shares_70 : decode cX11_shares 70 = .ok (.getfield 52, 3) := by decide +kernel
theorem dX11_shares_73 : decode cX11_shares 73 = .ok (.getfield 230, 3) := by decide +kernel
theorem dX11_shares_76 : decode cX11_shares 76 = .ok (.iload_n 1, 1) := by decide +kernel
theorem dX11_shares_77 : decode cX11_shares 77 = .ok (.iaload, 1) := by decide +kernel
theorem dX11_shares_78 : decode cX11_shares 78 = .ok (.imul, 1) := by decide +kernel
theorem dX11_shares_79 : decode cX11_shares 79 = .ok (.iload_n 3, 1) := by decide +kernel
theorem dX11_shares_80 : decode cX11_shares 80 = .ok (.idiv, 1) := by decide +kernel
theorem dX11_shares_81 : decode cX11_shares 81 = .ok (.ireturn, 1) := by decide +kernel
theorem dX11_most_0 : decode cX11_most 0 = .ok (.aload_n 0, 1) := by decide +kernel
theorem dX11_most_1 : decode cX11_most 1 = .ok (.getfield 19, 3) := by decide +kernel
theorem dX11_most_4 : decode cX11_most 4 = .ok (.invokevirtual 172, 3) := by decide +kernel
theorem dX11_most_7 : decode cX11_most 7 = .ok (.ifCond .ne 5, 3) := by decide +kernel
theorem dX11_most_10 : decode cX11_most 10 = .ok (.iconst (-1), 1) := by decide +kernel
theorem dX11_most_11 : decode cX11_most 11 = .ok (.ireturn, 1) := by decide +kernel
theorem dX11_most_12 : decode cX11_most 12 = .ok (.aload_n 0, 1) := by decide +kernel
theorem dX11_most_13 : decode cX11_most 13 = .ok (.getfield 80, 3) := by decide +kernel
theorem dX11_most_16 : decode cX11_most 16 = .ok (.aload_n 0, 1) := by decide +kernel
theorem dX11_most_17 : decode cX11_most 17 = .ok (.getfield 52, 3) := by decide +kernel
theorem dX11_most_20 : decode cX11_most 20 = .ok (.invokevirtual 312, 3) := by decide +kernel
theorem dX11_most_23 : decode cX11_most 23 = .ok (.iload_n 1, 1) := by decide +kernel
theorem dX11_most_24 : decode cX11_most 24 = .ok (.tableswitch 176 0 9 #[56, 74, 92, 110, 128, 136, 144, 152, 160, 168], 56) := by decide +kernel
theorem dX11_most_80 : decode cX11_most 80 = .ok (.aload_n 0, 1) := by decide +kernel
theorem dX11_most_81 : decode cX11_most 81 = .ok (.getfield 52, 3) := by decide +kernel
theorem dX11_most_84 : decode cX11_most 84 = .ok (.getfield 230, 3) := by decide +kernel
theorem dX11_most_87 : decode cX11_most 87 = .ok (.aload_n 0, 1) := by decide +kernel
theorem dX11_most_88 : decode cX11_most 88 = .ok (.getfield 19, 3) := by decide +kernel
theorem dX11_most_91 : decode cX11_most 91 = .ok (.getfield 169, 3) := by decide +kernel
theorem dX11_most_94 : decode cX11_most 94 = .ok (.invokestatic 384, 3) := by decide +kernel
theorem dX11_most_97 : decode cX11_most 97 = .ok (.ireturn, 1) := by decide +kernel
theorem dX11_most_98 : decode cX11_most 98 = .ok (.aload_n 0, 1) := by decide +kernel
theorem dX11_most_99 : decode cX11_most 99 = .ok (.getfield 19, 3) := by decide +kernel
theorem dX11_most_102 : decode cX11_most 102 = .ok (.getfield 227, 3) := by decide +kernel
theorem dX11_most_105 : decode cX11_most 105 = .ok (.aload_n 0, 1) := by decide +kernel
theorem dX11_most_106 : decode cX11_most 106 = .ok (.getfield 19, 3) := by decide +kernel
theorem dX11_most_109 : decode cX11_most 109 = .ok (.getfield 169, 3) := by decide +kernel
theorem dX11_most_112 : decode cX11_most 112 = .ok (.invokestatic 384, 3) := by decide +kernel
theorem dX11_most_115 : decode cX11_most 115 = .ok (.ireturn, 1) := by decide +kernel
theorem dX11_most_116 : decode cX11_most 116 = .ok (.aload_n 0, 1) := by decide +kernel
theorem dX11_most_117 : decode cX11_most 117 = .ok (.getfield 64, 3) := by decide +kernel
theorem dX11_most_120 : decode cX11_most 120 = .ok (.getfield 200, 3) := by decide +kernel
theorem dX11_most_123 : decode cX11_most 123 = .ok (.aload_n 0, 1) := by decide +kernel
theorem dX11_most_124 : decode cX11_most 124 = .ok (.getfield 19, 3) := by decide +kernel
theorem dX11_most_127 : decode cX11_most 127 = .ok (.getfield 289, 3) := by decide +kernel
theorem dX11_most_130 : decode cX11_most 130 = .ok (.invokestatic 384, 3) := by decide +kernel
theorem dX11_most_133 : decode cX11_most 133 = .ok (.ireturn, 1) := by decide +kernel
theorem dX11_most_134 : decode cX11_most 134 = .ok (.aload_n 0, 1) := by decide +kernel
theorem dX11_most_135 : decode cX11_most 135 = .ok (.getfield 52, 3) := by decide +kernel
theorem dX11_most_138 : decode cX11_most 138 = .ok (.getfield 203, 3) := by decide +kernel
theorem dX11_most_141 : decode cX11_most 141 = .ok (.aload_n 0, 1) := by decide +kernel
theorem dX11_most_142 : decode cX11_most 142 = .ok (.getfield 19, 3) := by decide +kernel
theorem dX11_most_145 : decode cX11_most 145 = .ok (.getfield 289, 3) := by decide +kernel
theorem dX11_most_148 : decode cX11_most 148 = .ok (.invokestatic 384, 3) := by decide +kernel
theorem dX11_most_151 : decode cX11_most 151 = .ok (.ireturn, 1) := by decide +kernel
theorem dX11_most_152 : decode cX11_most 152 = .ok (.aload_n 0, 1) := by decide +kernel
theorem dX11_most_153 : decode cX11_most 153 = .ok (.getfield 80, 3) := by decide +kernel
theorem dX11_most_156 : decode cX11_most 156 = .ok (.invokevirtual 387, 3) := by decide +kernel
theorem dX11_most_159 : decode cX11_most 159 = .ok (.ireturn, 1) := by decide +kernel
theorem dX11_most_160 : decode cX11_most 160 = .ok (.aload_n 0, 1) := by decide +kernel
theorem dX11_most_161 : decode cX11_most 161 = .ok (.getfield 80, 3) := by decide +kernel
theorem dX11_most_164 : decode cX11_most 164 = .ok (.invokevirtual 390, 3) := by decide +kernel
theorem dX11_most_167 : decode cX11_most 167 = .ok (.ireturn, 1) := by decide +kernel
theorem dX11_most_168 : decode cX11_most 168 = .ok (.aload_n 0, 1) := by decide +kernel
theorem dX11_most_169 : decode cX11_most 169 = .ok (.getfield 52, 3) := by decide +kernel
theorem dX11_most_172 : decode cX11_most 172 = .ok (.getfield 206, 3) := by decide +kernel
theorem dX11_most_175 : decode cX11_most 175 = .ok (.ireturn, 1) := by decide +kernel
theorem dX11_most_176 : decode cX11_most 176 = .ok (.aload_n 0, 1) := by decide +kernel
theorem dX11_most_177 : decode cX11_most 177 = .ok (.getfield 52, 3) := by decide +kernel
theorem dX11_most_180 : decode cX11_most 180 = .ok (.invokevirtual 262, 3) := by decide +kernel
theorem dX11_most_183 : decode cX11_most 183 = .ok (.ireturn, 1) := by decide +kernel
theorem dX11_most_184 : decode cX11_most 184 = .ok (.aload_n 0, 1) := by decide +kernel
theorem dX11_most_185 : decode cX11_most 185 = .ok (.getfield 80, 3) := by decide +kernel
theorem dX11_most_188 : decode cX11_most 188 = .ok (.invokevirtual 393, 3) := by decide +kernel
theorem dX11_most_191 : decode cX11_most 191 = .ok (.ireturn, 1) := by decide +kernel
theorem dX11_most_192 : decode cX11_most 192 = .ok (.aload_n 0, 1) := by decide +kernel
theorem dX11_most_193 : decode cX11_most 193 = .ok (.getfield 80, 3) := by decide +kernel
theorem dX11_most_196 : decode cX11_most 196 = .ok (.invokevirtual 396, 3) := by decide +kernel
theorem dX11_most_199 : decode cX11_most 199 = .ok (.ireturn, 1) := by decide +kernel
theorem dX11_most_200 : decode cX11_most 200 = .ok (.iconst (-1), 1) := by decide +kernel
theorem dX11_most_201 : decode cX11_most 201 = .ok (.ireturn, 1) := by decide +kernel
theorem dX11_firstGreatest_0 : decode cX11_firstGreatest 0 = .ok (.iconst 0, 1) := by decide +kernel
theorem dX11_firstGreatest_1 : decode cX11_firstGreatest 1 = .ok (.istore_n 2, 1) := by decide +kernel
theorem dX11_firstGreatest_2 : decode cX11_firstGreatest 2 = .ok (.iconst 1, 1) := by decide +kernel
theorem dX11_firstGreatest_3 : decode cX11_firstGreatest 3 = .ok (.istore_n 3, 1) := by decide +kernel
theorem dX11_firstGreatest_4 : decode cX11_firstGreatest 4 = .ok (.iload_n 3, 1) := by decide +kernel
theorem dX11_firstGreatest_5 : decode cX11_firstGreatest 5 = .ok (.iload_n 1, 1) := by decide +kernel
theorem dX11_firstGreatest_6 : decode cX11_firstGreatest 6 = .ok (.if_icmp .ge 26, 3) := by decide +kernel
theorem dX11_firstGreatest_9 : decode cX11_firstGreatest 9 = .ok (.iload_n 3, 1) := by decide +kernel
theorem dX11_firstGreatest_10 : decode cX11_firstGreatest 10 = .ok (.aload_n 0, 1) := by decide +kernel
theorem dX11_firstGreatest_11 : decode cX11_firstGreatest 11 = .ok (.arraylength, 1) := by decide +kernel
theorem dX11_firstGreatest_12 : decode cX11_firstGreatest 12 = .ok (.if_icmp .ge 20, 3) := by decide +kernel
theorem dX11_firstGreatest_15 : decode cX11_firstGreatest 15 = .ok (.aload_n 0, 1) := by decide +kernel
theorem dX11_firstGreatest_16 : decode cX11_firstGreatest 16 = .ok (.iload_n 3, 1) := by decide +kernel
theorem dX11_firstGreatest_17 : decode cX11_firstGreatest 17 = .ok (.iaload, 1) := by decide +kernel
theorem dX11_firstGreatest_18 : decode cX11_firstGreatest 18 = .ok (.aload_n 0, 1) := by decide +kernel
theorem dX11_firstGreatest_19 : decode cX11_firstGreatest 19 = .ok (.iload_n 2, 1) := by decide +kernel
theorem dX11_firstGreatest_20 : decode cX11_firstGreatest 20 = .ok (.iaload, 1) := by decide +kernel
theorem dX11_firstGreatest_21 : decode cX11_firstGreatest 21 = .ok (.if_icmp .le 5, 3) := by decide +kernel
theorem dX11_firstGreatest_24 : decode cX11_firstGreatest 24 = .ok (.iload_n 3, 1) := by decide +kernel
theorem dX11_firstGreatest_25 : decode cX11_firstGreatest 25 = .ok (.istore_n 2, 1) := by decide +kernel
theorem dX11_firstGreatest_26 : decode cX11_firstGreatest 26 = .ok (.iinc 3 1, 3) := by decide +kernel
theorem dX11_firstGreatest_29 : decode cX11_firstGreatest 29 = .ok (.goto (-25), 3) := by decide +kernel
theorem dX11_firstGreatest_32 : decode cX11_firstGreatest 32 = .ok (.iload_n 2, 1) := by decide +kernel
theorem dX11_firstGreatest_33 : decode cX11_firstGreatest 33 = .ok (.ireturn, 1) := by decide +kernel
theorem dX11_image_0 : decode cX11_image 0 = .ok (.aload_n 0, 1) := by decide +kernel
theorem dX11_image_1 : decode cX11_image 1 = .ok (.getfield 19, 3) := by decide +kernel
theorem dX11_image_4 : decode cX11_image 4 = .ok (.invokevirtual 172, 3) := by decide +kernel
theorem dX11_image_7 : decode cX11_image 7 = .ok (.ifCond .ne 5, 3) := by decide +kernel
theorem dX11_image_10 : decode cX11_image 10 = .ok (.iconst (-1), 1) := by decide +kernel
theorem dX11_image_11 : decode cX11_image 11 = .ok (.ireturn, 1) := by decide +kernel
theorem dX11_image_12 : decode cX11_image 12 = .ok (.aload_n 0, 1) := by decide +kernel
theorem dX11_image_13 : decode cX11_image 13 = .ok (.getfield 71, 3) := by decide +kernel
theorem dX11_image_16 : decode cX11_image 16 = .ok (.aload_n 0, 1) := by decide +kernel
theorem dX11_image_17 : decode cX11_image 17 = .ok (.getfield 52, 3) := by decide +kernel
theorem dX11_image_20 : decode cX11_image 20 = .ok (.invokevirtual 399, 3) := by decide +kernel
theorem dX11_image_23 : decode cX11_image 23 = .ok (.aload_n 0, 1) := by decide +kernel
theorem dX11_image_24 : decode cX11_image 24 = .ok (.getfield 52, 3) := by decide +kernel
theorem dX11_image_27 : decode cX11_image 27 = .ok (.getfield 249, 3) := by decide +kernel
theorem dX11_image_30 : decode cX11_image 30 = .ok (.ireturn, 1) := by decide +kernel
theorem dX11_back_0 : decode cX11_back 0 = .ok (.aload_n 0, 1) := by decide +kernel
theorem dX11_back_1 : decode cX11_back 1 = .ok (.getfield 71, 3) := by decide +kernel
theorem dX11_back_4 : decode cX11_back 4 = .ok (.aload_n 0, 1) := by decide +kernel
theorem dX11_back_5 : decode cX11_back 5 = .ok (.getfield 52, 3) := by decide +kernel
theorem dX11_back_8 : decode cX11_back 8 = .ok (.invokevirtual 402, 3) := by decide +kernel
theorem dX11_back_11 : decode cX11_back 11 = .ok (.ifCond .eq 13, 3) := by decide +kernel
theorem dX11_back_14 : decode cX11_back 14 = .ok (.aload_n 0, 1) := by decide +kernel
theorem dX11_back_15 : decode cX11_back 15 = .ok (.getfield 52, 3) := by decide +kernel
theorem dX11_back_18 : decode cX11_back 18 = .ok (.getfield 249, 3) := by decide +kernel
theorem dX11_back_21 : decode cX11_back 21 = .ok (.goto 4, 3) := by decide +kernel
theorem dX11_back_24 : decode cX11_back 24 = .ok (.iconst (-1), 1) := by decide +kernel
theorem dX11_back_25 : decode cX11_back 25 = .ok (.ireturn, 1) := by decide +kernel
theorem dX11_count_0 : decode cX11_count 0 = .ok (.iload_n 1, 1) := by decide +kernel
theorem dX11_count_1 : decode cX11_count 1 = .ok (.tableswitch 159 0 11 #[63, 71, 79, 87, 95, 103, 111, 119, 127, 132, 140, 151], 63) := by decide +kernel
theorem dX11_count_64 : decode cX11_count 64 = .ok (.aload_n 0, 1) := by decide +kernel
theorem dX11_count_65 : decode cX11_count 65 = .ok (.getfield 19, 3) := by decide +kernel
theorem dX11_count_68 : decode cX11_count 68 = .ok (.getfield 169, 3) := by decide +kernel
theorem dX11_count_71 : decode cX11_count 71 = .ok (.ireturn, 1) := by decide +kernel
theorem dX11_count_72 : decode cX11_count 72 = .ok (.aload_n 0, 1) := by decide +kernel
theorem dX11_count_73 : decode cX11_count 73 = .ok (.getfield 19, 3) := by decide +kernel
theorem dX11_count_76 : decode cX11_count 76 = .ok (.getfield 289, 3) := by decide +kernel
theorem dX11_count_79 : decode cX11_count 79 = .ok (.ireturn, 1) := by decide +kernel
theorem dX11_count_80 : decode cX11_count 80 = .ok (.aload_n 0, 1) := by decide +kernel
theorem dX11_count_81 : decode cX11_count 81 = .ok (.getfield 19, 3) := by decide +kernel
theorem dX11_count_84 : decode cX11_count 84 = .ok (.getfield 292, 3) := by decide +kernel
theorem dX11_count_87 : decode cX11_count 87 = .ok (.ireturn, 1) := by decide +kernel
theorem dX11_count_88 : decode cX11_count 88 = .ok (.aload_n 0, 1) := by decide +kernel
theorem dX11_count_89 : decode cX11_count 89 = .ok (.getfield 38, 3) := by decide +kernel
theorem dX11_count_92 : decode cX11_count 92 = .ok (.getfield 154, 3) := by decide +kernel
theorem dX11_count_95 : decode cX11_count 95 = .ok (.ireturn, 1) := by decide +kernel
theorem dX11_count_96 : decode cX11_count 96 = .ok (.aload_n 0, 1) := by decide +kernel
theorem dX11_count_97 : decode cX11_count 97 = .ok (.getfield 45, 3) := by decide +kernel
theorem dX11_count_100 : decode cX11_count 100 = .ok (.getfield 157, 3) := by decide +kernel
theorem dX11_count_103 : decode cX11_count 103 = .ok (.ireturn, 1) := by decide +kernel
theorem dX11_count_104 : decode cX11_count 104 = .ok (.aload_n 0, 1) := by decide +kernel
theorem dX11_count_105 : decode cX11_count 105 = .ok (.getfield 10, 3) := by decide +kernel
theorem dX11_count_108 : decode cX11_count 108 = .ok (.getfield 114, 3) := by decide +kernel
theorem dX11_count_111 : decode cX11_count 111 = .ok (.ireturn, 1) := by decide +kernel
theorem dX11_count_112 : decode cX11_count 112 = .ok (.aload_n 0, 1) := by decide +kernel
theorem dX11_count_113 : decode cX11_count 113 = .ok (.getfield 38, 3) := by decide +kernel
theorem dX11_count_116 : decode cX11_count 116 = .ok (.getfield 233, 3) := by decide +kernel
theorem dX11_count_119 : decode cX11_count 119 = .ok (.ireturn, 1) := by decide +kernel
theorem dX11_count_120 : decode cX11_count 120 = .ok (.aload_n 0, 1) := by decide +kernel
theorem dX11_count_121 : decode cX11_count 121 = .ok (.getfield 52, 3) := by decide +kernel
theorem dX11_count_124 : decode cX11_count 124 = .ok (.getfield 249, 3) := by decide +kernel
theorem dX11_count_127 : decode cX11_count 127 = .ok (.ireturn, 1) := by decide +kernel
theorem dX11_count_128 : decode cX11_count 128 = .ok (.aload_n 0, 1) := by decide +kernel
theorem dX11_count_129 : decode cX11_count 129 = .ok (.getfield 106, 3) := by decide +kernel
theorem dX11_count_132 : decode cX11_count 132 = .ok (.ireturn, 1) := by decide +kernel
theorem dX11_count_133 : decode cX11_count 133 = .ok (.aload_n 0, 1) := by decide +kernel
theorem dX11_count_134 : decode cX11_count 134 = .ok (.getfield 89, 3) := by decide +kernel
theorem dX11_count_137 : decode cX11_count 137 = .ok (.getfield 168, 3) := by decide +kernel
theorem dX11_count_140 : decode cX11_count 140 = .ok (.ireturn, 1) := by decide +kernel
theorem dX11_count_141 : decode cX11_count 141 = .ok (.aload_n 0, 1) := by decide +kernel
theorem dX11_count_142 : decode cX11_count 142 = .ok (.getfield 52, 3) := by decide +kernel
theorem dX11_count_145 : decode cX11_count 145 = .ok (.getfield 249, 3) := by decide +kernel
theorem dX11_count_148 : decode cX11_count 148 = .ok (.invokestatic 302, 3) := by decide +kernel
theorem dX11_count_151 : decode cX11_count 151 = .ok (.ireturn, 1) := by decide +kernel
theorem dX11_count_152 : decode cX11_count 152 = .ok (.aload_n 0, 1) := by decide +kernel
theorem dX11_count_153 : decode cX11_count 153 = .ok (.getfield 71, 3) := by decide +kernel
theorem dX11_count_156 : decode cX11_count 156 = .ok (.getfield 406, 3) := by decide +kernel
theorem dX11_count_159 : decode cX11_count 159 = .ok (.ireturn, 1) := by decide +kernel
theorem dX11_count_160 : decode cX11_count 160 = .ok (.ldc_w 361, 3) := by decide +kernel
theorem dX11_count_163 : decode cX11_count 163 = .ok (.ireturn, 1) := by decide +kernel
theorem dJ0_length_8abf5_0 : decode cJ0_length_8abf5 0 = .ok (.aload_n 0, 1) := by decide +kernel
theorem dJ0_length_8abf5_1 : decode cJ0_length_8abf5 1 = .ok (.getfield 9, 3) := by decide +kernel
theorem dJ0_length_8abf5_4 : decode cJ0_length_8abf5 4 = .ok (.arraylength, 1) := by decide +kernel
theorem dJ0_length_8abf5_5 : decode cJ0_length_8abf5 5 = .ok (.aload_n 0, 1) := by decide +kernel
theorem dJ0_length_8abf5_6 : decode cJ0_length_8abf5 6 = .ok (.invokevirtual 335, 3) := by decide +kernel
theorem dJ0_length_8abf5_9 : decode cJ0_length_8abf5 9 = .ok (.ishr, 1) := by decide +kernel
theorem dJ0_length_8abf5_10 : decode cJ0_length_8abf5 10 = .ok (.ireturn, 1) := by decide +kernel
theorem dJ0_charAt_5068e_0 : decode cJ0_charAt_5068e 0 = .ok (.aload_n 0, 1) := by decide +kernel
theorem dJ0_charAt_5068e_1 : decode cJ0_charAt_5068e 1 = .ok (.invokevirtual 492, 3) := by decide +kernel
theorem dJ0_charAt_5068e_4 : decode cJ0_charAt_5068e 4 = .ok (.ifCond .eq 12, 3) := by decide +kernel
theorem dJ0_charAt_5068e_7 : decode cJ0_charAt_5068e 7 = .ok (.aload_n 0, 1) := by decide +kernel
theorem dJ0_charAt_5068e_8 : decode cJ0_charAt_5068e 8 = .ok (.getfield 9, 3) := by decide +kernel
theorem dJ0_charAt_5068e_11 : decode cJ0_charAt_5068e 11 = .ok (.iload_n 1, 1) := by decide +kernel
theorem dJ0_charAt_5068e_12 : decode cJ0_charAt_5068e 12 = .ok (.invokestatic 495, 3) := by decide +kernel
theorem dJ0_charAt_5068e_15 : decode cJ0_charAt_5068e 15 = .ok (.ireturn, 1) := by decide +kernel
theorem dJ0_charAt_5068e_16 : decode cJ0_charAt_5068e 16 = .ok (.aload_n 0, 1) := by decide +kernel
theorem dJ0_charAt_5068e_17 : decode cJ0_charAt_5068e 17 = .ok (.getfield 9, 3) := by decide +kernel
theorem dJ0_charAt_5068e_20 : decode cJ0_charAt_5068e 20 = .ok (.iload_n 1, 1) := by decide +kernel
theorem dJ0_charAt_5068e_21 : decode cJ0_charAt_5068e 21 = .ok (.invokestatic 498, 3) := by decide +kernel
theorem dJ0_charAt_5068e_24 : decode cJ0_charAt_5068e 24 = .ok (.ireturn, 1) := by decide +kernel
theorem dJ0_indexOf_0f7a4_0 : decode cJ0_indexOf_0f7a4 0 = .ok (.aload_n 0, 1) := by decide +kernel
theorem dJ0_indexOf_0f7a4_1 : decode cJ0_indexOf_0f7a4 1 = .ok (.iload_n 1, 1) := by decide +kernel
theorem dJ0_indexOf_0f7a4_2 : decode cJ0_indexOf_0f7a4 2 = .ok (.iconst 0, 1) := by decide +kernel
theorem dJ0_indexOf_0f7a4_3 : decode cJ0_indexOf_0f7a4 3 = .ok (.invokevirtual 633, 3) := by decide +kernel
theorem dJ0_indexOf_0f7a4_6 : decode cJ0_indexOf_0f7a4 6 = .ok (.ireturn, 1) := by decide +kernel
theorem dJ0_indexOf_7cf53_0 : decode cJ0_indexOf_7cf53 0 = .ok (.aload_n 0, 1) := by decide +kernel
theorem dJ0_indexOf_7cf53_1 : decode cJ0_indexOf_7cf53 1 = .ok (.invokevirtual 492, 3) := by decide +kernel
theorem dJ0_indexOf_7cf53_4 : decode cJ0_indexOf_7cf53 4 = .ok (.ifCond .eq 19, 3) := by decide +kernel
theorem dJ0_indexOf_7cf53_7 : decode cJ0_indexOf_7cf53 7 = .ok (.aload_n 0, 1) := by decide +kernel
theorem dJ0_indexOf_7cf53_8 : decode cJ0_indexOf_7cf53 8 = .ok (.getfield 9, 3) := by decide +kernel
theorem dJ0_indexOf_7cf53_11 : decode cJ0_indexOf_7cf53 11 = .ok (.iload_n 1, 1) := by decide +kernel
theorem dJ0_indexOf_7cf53_12 : decode cJ0_indexOf_7cf53 12 = .ok (.iload_n 2, 1) := by decide +kernel
theorem dJ0_indexOf_7cf53_13 : decode cJ0_indexOf_7cf53 13 = .ok (.aload_n 0, 1) := by decide +kernel
theorem dJ0_indexOf_7cf53_14 : decode cJ0_indexOf_7cf53 14 = .ok (.invokevirtual 505, 3) := by decide +kernel
theorem dJ0_indexOf_7cf53_17 : decode cJ0_indexOf_7cf53 17 = .ok (.invokestatic 637, 3) := by decide +kernel
theorem dJ0_indexOf_7cf53_20 : decode cJ0_indexOf_7cf53 20 = .ok (.goto 16, 3) := by decide +kernel
theorem dJ0_indexOf_7cf53_23 : decode cJ0_indexOf_7cf53 23 = .ok (.aload_n 0, 1) := by decide +kernel
theorem dJ0_indexOf_7cf53_24 : decode cJ0_indexOf_7cf53 24 = .ok (.getfield 9, 3) := by decide +kernel
theorem dJ0_indexOf_7cf53_27 : decode cJ0_indexOf_7cf53 27 = .ok (.iload_n 1, 1) := by decide +kernel
theorem dJ0_indexOf_7cf53_28 : decode cJ0_indexOf_7cf53 28 = .ok (.iload_n 2, 1) := by decide +kernel
theorem dJ0_indexOf_7cf53_29 : decode cJ0_indexOf_7cf53 29 = .ok (.aload_n 0, 1) := by decide +kernel
theorem dJ0_indexOf_7cf53_30 : decode cJ0_indexOf_7cf53 30 = .ok (.invokevirtual 505, 3) := by decide +kernel
theorem dJ0_indexOf_7cf53_33 : decode cJ0_indexOf_7cf53 33 = .ok (.invokestatic 640, 3) := by decide +kernel
theorem dJ0_indexOf_7cf53_36 : decode cJ0_indexOf_7cf53 36 = .ok (.ireturn, 1) := by decide +kernel
theorem dJ0_coder_7d493_0 : decode cJ0_coder_7d493 0 = .ok (.getstatic 38, 3) := by decide +kernel
theorem dJ0_coder_7d493_3 : decode cJ0_coder_7d493 3 = .ok (.ifCond .eq 10, 3) := by decide +kernel
theorem dJ0_coder_7d493_6 : decode cJ0_coder_7d493 6 = .ok (.aload_n 0, 1) := by decide +kernel
theorem dJ0_coder_7d493_7 : decode cJ0_coder_7d493 7 = .ok (.getfield 15, 3) := by decide +kernel
theorem dJ0_coder_7d493_10 : decode cJ0_coder_7d493 10 = .ok (.goto 4, 3) := by decide +kernel
theorem dJ0_coder_7d493_13 : decode cJ0_coder_7d493 13 = .ok (.iconst 1, 1) := by decide +kernel
theorem dJ0_coder_7d493_14 : decode cJ0_coder_7d493 14 = .ok (.ireturn, 1) := by decide +kernel
theorem dJ0_isLatin1_aae02_0 : decode cJ0_isLatin1_aae02 0 = .ok (.getstatic 38, 3) := by decide +kernel
theorem dJ0_isLatin1_aae02_3 : decode cJ0_isLatin1_aae02 3 = .ok (.ifCond .eq 14, 3) := by decide +kernel
theorem dJ0_isLatin1_aae02_6 : decode cJ0_isLatin1_aae02 6 = .ok (.aload_n 0, 1) := by decide +kernel
theorem dJ0_isLatin1_aae02_7 : decode cJ0_isLatin1_aae02 7 = .ok (.getfield 15, 3) := by decide +kernel
theorem dJ0_isLatin1_aae02_10 : decode cJ0_isLatin1_aae02 10 = .ok (.ifCond .ne 7, 3) := by decide +kernel
theorem dJ0_isLatin1_aae02_13 : decode cJ0_isLatin1_aae02 13 = .ok (.iconst 1, 1) := by decide +kernel
theorem dJ0_isLatin1_aae02_14 : decode cJ0_isLatin1_aae02 14 = .ok (.goto 4, 3) := by decide +kernel
theorem dJ0_isLatin1_aae02_17 : decode cJ0_isLatin1_aae02 17 = .ok (.iconst 0, 1) := by decide +kernel
theorem dJ0_isLatin1_aae02_18 : decode cJ0_isLatin1_aae02 18 = .ok (.ireturn, 1) := by decide +kernel
theorem dJ0_checkIndex_df160_0 : decode cJ0_checkIndex_df160 0 = .ok (.iload_n 0, 1) := by decide +kernel
theorem dJ0_checkIndex_df160_1 : decode cJ0_checkIndex_df160 1 = .ok (.iload_n 1, 1) := by decide +kernel
theorem dJ0_checkIndex_df160_2 : decode cJ0_checkIndex_df160 2 = .ok (.getstatic 1053, 3) := by decide +kernel
theorem dJ0_checkIndex_df160_5 : decode cJ0_checkIndex_df160 5 = .ok (.invokestatic 1059, 3) := by decide +kernel
theorem dJ0_checkIndex_df160_8 : decode cJ0_checkIndex_df160 8 = .ok (.pop, 1) := by decide +kernel
theorem dJ0_checkIndex_df160_9 : decode cJ0_checkIndex_df160 9 = .ok (.return_, 1) := by decide +kernel
theorem dJ0_checkBoundsBeginEnd_23922_0 : decode cJ0_checkBoundsBeginEnd_23922 0 = .ok (.iload_n 0, 1) := by decide +kernel
theorem dJ0_checkBoundsBeginEnd_23922_1 : decode cJ0_checkBoundsBeginEnd_23922 1 = .ok (.iload_n 1, 1) := by decide +kernel
theorem dJ0_checkBoundsBeginEnd_23922_2 : decode cJ0_checkBoundsBeginEnd_23922 2 = .ok (.iload_n 2, 1) := by decide +kernel
theorem dJ0_checkBoundsBeginEnd_23922_3 : decode cJ0_checkBoundsBeginEnd_23922 3 = .ok (.getstatic 1053, 3) := by decide +kernel
theorem dJ0_checkBoundsBeginEnd_23922_6 : decode cJ0_checkBoundsBeginEnd_23922 6 = .ok (.invokestatic 1062, 3) := by decide +kernel
theorem dJ0_checkBoundsBeginEnd_23922_9 : decode cJ0_checkBoundsBeginEnd_23922 9 = .ok (.pop, 1) := by decide +kernel
theorem dJ0_checkBoundsBeginEnd_23922_10 : decode cJ0_checkBoundsBeginEnd_23922 10 = .ok (.return_, 1) := by decide +kernel
theorem dJ1_charAt_3b067_0 : decode cJ1_charAt_3b067 0 = .ok (.iload_n 1, 1) := by decide +kernel
theorem dJ1_charAt_3b067_1 : decode cJ1_charAt_3b067 1 = .ok (.aload_n 0, 1) := by decide +kernel
theorem dJ1_charAt_3b067_2 : decode cJ1_charAt_3b067 2 = .ok (.arraylength, 1) := by decide +kernel
theorem dJ1_charAt_3b067_3 : decode cJ1_charAt_3b067 3 = .ok (.invokestatic 9, 3) := by decide +kernel
theorem dJ1_charAt_3b067_6 : decode cJ1_charAt_3b067 6 = .ok (.aload_n 0, 1) := by decide +kernel
theorem dJ1_charAt_3b067_7 : decode cJ1_charAt_3b067 7 = .ok (.iload_n 1, 1) := by decide +kernel
theorem dJ1_charAt_3b067_8 : decode cJ1_charAt_3b067 8 = .ok (.baload, 1) := by decide +kernel
theorem dJ1_charAt_3b067_9 : decode cJ1_charAt_3b067 9 = .ok (.sipush 255, 3) := by decide +kernel
theorem dJ1_charAt_3b067_12 : decode cJ1_charAt_3b067 12 = .ok (.iand, 1) := by decide +kernel
theorem dJ1_charAt_3b067_13 : decode cJ1_charAt_3b067 13 = .ok (.i2c, 1) := by decide +kernel
theorem dJ1_charAt_3b067_14 : decode cJ1_charAt_3b067 14 = .ok (.ireturn, 1) := by decide +kernel
theorem dJ1_canEncode_9a6ad_0 : decode cJ1_canEncode_9a6ad 0 = .ok (.iload_n 0, 1) := by decide +kernel
theorem dJ1_canEncode_9a6ad_1 : decode cJ1_canEncode_9a6ad 1 = .ok (.ifCond .lt 14, 3) := by decide +kernel
theorem dJ1_canEncode_9a6ad_4 : decode cJ1_canEncode_9a6ad 4 = .ok (.iload_n 0, 1) := by decide +kernel
theorem dJ1_canEncode_9a6ad_5 : decode cJ1_canEncode_9a6ad 5 = .ok (.sipush 255, 3) := by decide +kernel
theorem dJ1_canEncode_9a6ad_8 : decode cJ1_canEncode_9a6ad 8 = .ok (.if_icmp .gt 7, 3) := by decide +kernel
theorem dJ1_canEncode_9a6ad_11 : decode cJ1_canEncode_9a6ad 11 = .ok (.iconst 1, 1) := by decide +kernel
theorem dJ1_canEncode_9a6ad_12 : decode cJ1_canEncode_9a6ad 12 = .ok (.goto 4, 3) := by decide +kernel
theorem dJ1_canEncode_9a6ad_15 : decode cJ1_canEncode_9a6ad 15 = .ok (.iconst 0, 1) := by decide +kernel
theorem dJ1_canEncode_9a6ad_16 : decode cJ1_canEncode_9a6ad 16 = .ok (.ireturn, 1) := by decide +kernel
theorem dJ1_indexOf_4cfef_0 : decode cJ1_indexOf_4cfef 0 = .ok (.iload_n 1, 1) := by decide +kernel
theorem dJ1_indexOf_4cfef_1 : decode cJ1_indexOf_4cfef 1 = .ok (.invokestatic 88, 3) := by decide +kernel
theorem dJ1_indexOf_4cfef_4 : decode cJ1_indexOf_4cfef 4 = .ok (.ifCond .ne 5, 3) := by decide +kernel
theorem dJ1_indexOf_4cfef_7 : decode cJ1_indexOf_4cfef 7 = .ok (.iconst (-1), 1) := by decide +kernel
theorem dJ1_indexOf_4cfef_8 : decode cJ1_indexOf_4cfef 8 = .ok (.ireturn, 1) := by decide +kernel
theorem dJ1_indexOf_4cfef_9 : decode cJ1_indexOf_4cfef 9 = .ok (.iload_n 2, 1) := by decide +kernel
theorem dJ1_indexOf_4cfef_10 : decode cJ1_indexOf_4cfef 10 = .ok (.iconst 0, 1) := by decide +kernel
theorem dJ1_indexOf_4cfef_11 : decode cJ1_indexOf_4cfef 11 = .ok (.invokestatic 92, 3) := by decide +kernel
theorem dJ1_indexOf_4cfef_14 : decode cJ1_indexOf_4cfef 14 = .ok (.istore_n 2, 1) := by decide +kernel
theorem dJ1_indexOf_4cfef_15 : decode cJ1_indexOf_4cfef 15 = .ok (.iload_n 3, 1) := by decide +kernel
theorem dJ1_indexOf_4cfef_16 : decode cJ1_indexOf_4cfef 16 = .ok (.aload_n 0, 1) := by decide +kernel
theorem dJ1_indexOf_4cfef_17 : decode cJ1_indexOf_4cfef 17 = .ok (.arraylength, 1) := by decide +kernel
theorem dJ1_indexOf_4cfef_18 : decode cJ1_indexOf_4cfef 18 = .ok (.invokestatic 38, 3) := by decide +kernel
theorem dJ1_indexOf_4cfef_21 : decode cJ1_indexOf_4cfef 21 = .ok (.istore_n 3, 1) := by decide +kernel
theorem dJ1_indexOf_4cfef_22 : decode cJ1_indexOf_4cfef 22 = .ok (.iload_n 2, 1) := by decide +kernel
theorem dJ1_indexOf_4cfef_23 : decode cJ1_indexOf_4cfef 23 = .ok (.iload_n 3, 1) := by decide +kernel
theorem dJ1_indexOf_4cfef_24 : decode cJ1_indexOf_4cfef 24 = .ok (.if_icmp .lt 5, 3) := by decide +kernel
theorem dJ1_indexOf_4cfef_27 : decode cJ1_indexOf_4cfef 27 = .ok (.iconst (-1), 1) := by decide +kernel
theorem dJ1_indexOf_4cfef_28 : decode cJ1_indexOf_4cfef 28 = .ok (.ireturn, 1) := by decide +kernel
theorem dJ1_indexOf_4cfef_29 : decode cJ1_indexOf_4cfef 29 = .ok (.aload_n 0, 1) := by decide +kernel
theorem dJ1_indexOf_4cfef_30 : decode cJ1_indexOf_4cfef 30 = .ok (.iload_n 1, 1) := by decide +kernel
theorem dJ1_indexOf_4cfef_31 : decode cJ1_indexOf_4cfef 31 = .ok (.iload_n 2, 1) := by decide +kernel
theorem dJ1_indexOf_4cfef_32 : decode cJ1_indexOf_4cfef 32 = .ok (.iload_n 3, 1) := by decide +kernel
theorem dJ1_indexOf_4cfef_33 : decode cJ1_indexOf_4cfef 33 = .ok (.invokestatic 95, 3) := by decide +kernel
theorem dJ1_indexOf_4cfef_36 : decode cJ1_indexOf_4cfef 36 = .ok (.ireturn, 1) := by decide +kernel
theorem dJ1_indexOfChar_4cfef_0 : decode cJ1_indexOfChar_4cfef 0 = .ok (.iload_n 1, 1) := by decide +kernel
theorem dJ1_indexOfChar_4cfef_1 : decode cJ1_indexOfChar_4cfef 1 = .ok (.i2b, 1) := by decide +kernel
theorem dJ1_indexOfChar_4cfef_2 : decode cJ1_indexOfChar_4cfef 2 = .ok (.istore 4, 2) := by decide +kernel
theorem dJ1_indexOfChar_4cfef_4 : decode cJ1_indexOfChar_4cfef 4 = .ok (.iload_n 2, 1) := by decide +kernel
theorem dJ1_indexOfChar_4cfef_5 : decode cJ1_indexOfChar_4cfef 5 = .ok (.istore 5, 2) := by decide +kernel
theorem dJ1_indexOfChar_4cfef_7 : decode cJ1_indexOfChar_4cfef 7 = .ok (.iload 5, 2) := by decide +kernel
theorem dJ1_indexOfChar_4cfef_9 : decode cJ1_indexOfChar_4cfef 9 = .ok (.iload_n 3, 1) := by decide +kernel
theorem dJ1_indexOfChar_4cfef_10 : decode cJ1_indexOfChar_4cfef 10 = .ok (.if_icmp .ge 21, 3) := by decide +kernel
theorem dJ1_indexOfChar_4cfef_13 : decode cJ1_indexOfChar_4cfef 13 = .ok (.aload_n 0, 1) := by decide +kernel
theorem dJ1_indexOfChar_4cfef_14 : decode cJ1_indexOfChar_4cfef 14 = .ok (.iload 5, 2) := by decide +kernel
theorem dJ1_indexOfChar_4cfef_16 : decode cJ1_indexOfChar_4cfef 16 = .ok (.baload, 1) := by decide +kernel
theorem dJ1_indexOfChar_4cfef_17 : decode cJ1_indexOfChar_4cfef 17 = .ok (.iload 4, 2) := by decide +kernel
theorem dJ1_indexOfChar_4cfef_19 : decode cJ1_indexOfChar_4cfef 19 = .ok (.if_icmp .ne 6, 3) := by decide +kernel
theorem dJ1_indexOfChar_4cfef_22 : decode cJ1_indexOfChar_4cfef 22 = .ok (.iload 5, 2) := by decide +kernel
theorem dJ1_indexOfChar_4cfef_24 : decode cJ1_indexOfChar_4cfef 24 = .ok (.ireturn, 1) := by decide +kernel
theorem dJ1_indexOfChar_4cfef_25 : decode cJ1_indexOfChar_4cfef 25 = .ok (.iinc 5 1, 3) := by decide +kernel
theorem dJ1_indexOfChar_4cfef_28 : decode cJ1_indexOfChar_4cfef 28 = .ok (.goto (-21), 3) := by decide +kernel
theorem dJ1_indexOfChar_4cfef_31 : decode cJ1_indexOfChar_4cfef 31 = .ok (.iconst (-1), 1) := by decide +kernel
theorem dJ1_indexOfChar_4cfef_32 : decode cJ1_indexOfChar_4cfef 32 = .ok (.ireturn, 1) := by decide +kernel
theorem dJ11_isValidCodePoint_9a6ad_0 : decode cJ11_isValidCodePoint_9a6ad 0 = .ok (.iload_n 0, 1) := by decide +kernel
theorem dJ11_isValidCodePoint_9a6ad_1 : decode cJ11_isValidCodePoint_9a6ad 1 = .ok (.bipush 16, 2) := by decide +kernel
theorem dJ11_isValidCodePoint_9a6ad_3 : decode cJ11_isValidCodePoint_9a6ad 3 = .ok (.iushr, 1) := by decide +kernel
theorem dJ11_isValidCodePoint_9a6ad_4 : decode cJ11_isValidCodePoint_9a6ad 4 = .ok (.istore_n 1, 1) := by decide +kernel
theorem dJ11_isValidCodePoint_9a6ad_5 : decode cJ11_isValidCodePoint_9a6ad 5 = .ok (.iload_n 1, 1) := by decide +kernel
theorem dJ11_isValidCodePoint_9a6ad_6 : decode cJ11_isValidCodePoint_9a6ad 6 = .ok (.bipush 17, 2) := by decide +kernel
theorem dJ11_isValidCodePoint_9a6ad_8 : decode cJ11_isValidCodePoint_9a6ad 8 = .ok (.if_icmp .ge 7, 3) := by decide +kernel
theorem dJ11_isValidCodePoint_9a6ad_11 : decode cJ11_isValidCodePoint_9a6ad 11 = .ok (.iconst 1, 1) := by decide +kernel
theorem dJ11_isValidCodePoint_9a6ad_12 : decode cJ11_isValidCodePoint_9a6ad 12 = .ok (.goto 4, 3) := by decide +kernel
theorem dJ11_isValidCodePoint_9a6ad_15 : decode cJ11_isValidCodePoint_9a6ad 15 = .ok (.iconst 0, 1) := by decide +kernel
theorem dJ11_isValidCodePoint_9a6ad_16 : decode cJ11_isValidCodePoint_9a6ad 16 = .ok (.ireturn, 1) := by decide +kernel
theorem dJ11_highSurrogate_5068e_0 : decode cJ11_highSurrogate_5068e 0 = .ok (.iload_n 0, 1) := by decide +kernel
theorem dJ11_highSurrogate_5068e_1 : decode cJ11_highSurrogate_5068e 1 = .ok (.bipush 10, 2) := by decide +kernel
theorem dJ11_highSurrogate_5068e_3 : decode cJ11_highSurrogate_5068e 3 = .ok (.iushr, 1) := by decide +kernel
theorem dJ11_highSurrogate_5068e_4 : decode cJ11_highSurrogate_5068e 4 = .ok (.ldc 110, 2) := by decide +kernel
theorem dJ11_highSurrogate_5068e_6 : decode cJ11_highSurrogate_5068e 6 = .ok (.iadd, 1) := by decide +kernel
theorem dJ11_highSurrogate_5068e_7 : decode cJ11_highSurrogate_5068e 7 = .ok (.i2c, 1) := by decide +kernel
theorem dJ11_highSurrogate_5068e_8 : decode cJ11_highSurrogate_5068e 8 = .ok (.ireturn, 1) := by decide +kernel
theorem dJ11_lowSurrogate_5068e_0 : decode cJ11_lowSurrogate_5068e 0 = .ok (.iload_n 0, 1) := by decide +kernel
theorem dJ11_lowSurrogate_5068e_1 : decode cJ11_lowSurrogate_5068e 1 = .ok (.sipush 1023, 3) := by decide +kernel
theorem dJ11_lowSurrogate_5068e_4 : decode cJ11_lowSurrogate_5068e 4 = .ok (.iand, 1) := by decide +kernel
theorem dJ11_lowSurrogate_5068e_5 : decode cJ11_lowSurrogate_5068e 5 = .ok (.ldc 76, 2) := by decide +kernel
theorem dJ11_lowSurrogate_5068e_7 : decode cJ11_lowSurrogate_5068e 7 = .ok (.iadd, 1) := by decide +kernel
theorem dJ11_lowSurrogate_5068e_8 : decode cJ11_lowSurrogate_5068e 8 = .ok (.i2c, 1) := by decide +kernel
theorem dJ11_lowSurrogate_5068e_9 : decode cJ11_lowSurrogate_5068e 9 = .ok (.ireturn, 1) := by decide +kernel
theorem dJ2_getChar_3b067_0 : decode cJ2_getChar_3b067 0 = .ok (.getstatic 44, 3) := by decide +kernel
theorem dJ2_getChar_3b067_3 : decode cJ2_getChar_3b067 3 = .ok (.ifCond .ne 25, 3) := by decide +kernel
theorem dJ2_getChar_3b067_6 : decode cJ2_getChar_3b067 6 = .ok (.iload_n 1, 1) := by decide +kernel
theorem dJ2_getChar_3b067_7 : decode cJ2_getChar_3b067 7 = .ok (.ifCond .lt 11, 3) := by decide +kernel
theorem dJ2_getChar_3b067_10 : decode cJ2_getChar_3b067 10 = .ok (.iload_n 1, 1) := by decide +kernel
theorem dJ2_getChar_3b067_11 : decode cJ2_getChar_3b067 11 = .ok (.aload_n 0, 1) := by decide +kernel
theorem dJ2_getChar_3b067_12 : decode cJ2_getChar_3b067 12 = .ok (.invokestatic 48, 3) := by decide +kernel
theorem dJ2_getChar_3b067_15 : decode cJ2_getChar_3b067 15 = .ok (.if_icmp .lt 13, 3) := by decide +kernel
theorem dJ2_getChar_3b067_18 : decode cJ2_getChar_3b067 18 = .ok (.new 52, 3) := by decide +kernel
theorem dJ2_getChar_3b067_21 : decode cJ2_getChar_3b067 21 = .ok (.dup, 1) := by decide +kernel
theorem dJ2_getChar_3b067_22 : decode cJ2_getChar_3b067 22 = .ok (.ldc 54, 2) := by decide +kernel
theorem dJ2_getChar_3b067_24 : decode cJ2_getChar_3b067 24 = .ok (.invokespecial 56, 3) := by decide +kernel
theorem dJ2_getChar_3b067_27 : decode cJ2_getChar_3b067 27 = .ok (.athrow, 1) := by decide +kernel
theorem dJ2_getChar_3b067_28 : decode cJ2_getChar_3b067 28 = .ok (.iload_n 1, 1) := by decide +kernel
theorem dJ2_getChar_3b067_29 : decode cJ2_getChar_3b067 29 = .ok (.iconst 1, 1) := by decide +kernel
theorem dJ2_getChar_3b067_30 : decode cJ2_getChar_3b067 30 = .ok (.ishl, 1) := by decide +kernel
theorem dJ2_getChar_3b067_31 : decode cJ2_getChar_3b067 31 = .ok (.istore_n 1, 1) := by decide +kernel
theorem dJ2_getChar_3b067_32 : decode cJ2_getChar_3b067 32 = .ok (.aload_n 0, 1) := by decide +kernel
theorem dJ2_getChar_3b067_33 : decode cJ2_getChar_3b067 33 = .ok (.iload_n 1, 1) := by decide +kernel
theorem dJ2_getChar_3b067_34 : decode cJ2_getChar_3b067 34 = .ok (.iinc 1 1, 3) := by decide +kernel
theorem dJ2_getChar_3b067_37 : decode cJ2_getChar_3b067 37 = .ok (.baload, 1) := by decide +kernel
theorem dJ2_getChar_3b067_38 : decode cJ2_getChar_3b067 38 = .ok (.sipush 255, 3) := by decide +kernel
theorem dJ2_getChar_3b067_41 : decode cJ2_getChar_3b067 41 = .ok (.iand, 1) := by decide +kernel
theorem dJ2_getChar_3b067_42 : decode cJ2_getChar_3b067 42 = .ok (.getstatic 59, 3) := by decide +kernel
theorem dJ2_getChar_3b067_45 : decode cJ2_getChar_3b067 45 = .ok (.ishl, 1) := by decide +kernel
theorem dJ2_getChar_3b067_46 : decode cJ2_getChar_3b067 46 = .ok (.aload_n 0, 1) := by decide +kernel
theorem dJ2_getChar_3b067_47 : decode cJ2_getChar_3b067 47 = .ok (.iload_n 1, 1) := by decide +kernel
theorem dJ2_getChar_3b067_48 : decode cJ2_getChar_3b067 48 = .ok (.baload, 1) := by decide +kernel
theorem dJ2_getChar_3b067_49 : decode cJ2_getChar_3b067 49 = .ok (.sipush 255, 3) := by decide +kernel
theorem dJ2_getChar_3b067_52 : decode cJ2_getChar_3b067 52 = .ok (.iand, 1) := by decide +kernel
theorem dJ2_getChar_3b067_53 : decode cJ2_getChar_3b067 53 = .ok (.getstatic 63, 3) := by decide +kernel
theorem dJ2_getChar_3b067_56 : decode cJ2_getChar_3b067 56 = .ok (.ishl, 1) := by decide +kernel
theorem dJ2_getChar_3b067_57 : decode cJ2_getChar_3b067 57 = .ok (.ior, 1) := by decide +kernel
theorem dJ2_getChar_3b067_58 : decode cJ2_getChar_3b067 58 = .ok (.i2c, 1) := by decide +kernel
theorem dJ2_getChar_3b067_59 : decode cJ2_getChar_3b067 59 = .ok (.ireturn, 1) := by decide +kernel
theorem dJ2_length_9d52b_0 : decode cJ2_length_9d52b 0 = .ok (.aload_n 0, 1) := by decide +kernel
theorem dJ2_length_9d52b_1 : decode cJ2_length_9d52b 1 = .ok (.arraylength, 1) := by decide +kernel
theorem dJ2_length_9d52b_2 : decode cJ2_length_9d52b 2 = .ok (.iconst 1, 1) := by decide +kernel
theorem dJ2_length_9d52b_3 : decode cJ2_length_9d52b 3 = .ok (.ishr, 1) := by decide +kernel
theorem dJ2_length_9d52b_4 : decode cJ2_length_9d52b 4 = .ok (.ireturn, 1) := by decide +kernel
theorem dJ2_indexOf_4cfef_0 : decode cJ2_indexOf_4cfef 0 = .ok (.iload_n 2, 1) := by decide +kernel
theorem dJ2_indexOf_4cfef_1 : decode cJ2_indexOf_4cfef 1 = .ok (.iconst 0, 1) := by decide +kernel
theorem dJ2_indexOf_4cfef_2 : decode cJ2_indexOf_4cfef 2 = .ok (.invokestatic 224, 3) := by decide +kernel
theorem dJ2_indexOf_4cfef_5 : decode cJ2_indexOf_4cfef 5 = .ok (.istore_n 2, 1) := by decide +kernel
theorem dJ2_indexOf_4cfef_6 : decode cJ2_indexOf_4cfef 6 = .ok (.iload_n 3, 1) := by decide +kernel
theorem dJ2_indexOf_4cfef_7 : decode cJ2_indexOf_4cfef 7 = .ok (.aload_n 0, 1) := by decide +kernel
theorem dJ2_indexOf_4cfef_8 : decode cJ2_indexOf_4cfef 8 = .ok (.arraylength, 1) := by decide +kernel
theorem dJ2_indexOf_4cfef_9 : decode cJ2_indexOf_4cfef 9 = .ok (.iconst 1, 1) := by decide +kernel
theorem dJ2_indexOf_4cfef_10 : decode cJ2_indexOf_4cfef 10 = .ok (.ishr, 1) := by decide +kernel
theorem dJ2_indexOf_4cfef_11 : decode cJ2_indexOf_4cfef 11 = .ok (.invokestatic 183, 3) := by decide +kernel
theorem dJ2_indexOf_4cfef_14 : decode cJ2_indexOf_4cfef 14 = .ok (.istore_n 3, 1) := by decide +kernel
theorem dJ2_indexOf_4cfef_15 : decode cJ2_indexOf_4cfef 15 = .ok (.iload_n 2, 1) := by decide +kernel
theorem dJ2_indexOf_4cfef_16 : decode cJ2_indexOf_4cfef 16 = .ok (.iload_n 3, 1) := by decide +kernel
theorem dJ2_indexOf_4cfef_17 : decode cJ2_indexOf_4cfef 17 = .ok (.if_icmp .lt 5, 3) := by decide +kernel
theorem dJ2_indexOf_4cfef_20 : decode cJ2_indexOf_4cfef 20 = .ok (.iconst (-1), 1) := by decide +kernel
theorem dJ2_indexOf_4cfef_21 : decode cJ2_indexOf_4cfef 21 = .ok (.ireturn, 1) := by decide +kernel
theorem dJ2_indexOf_4cfef_22 : decode cJ2_indexOf_4cfef 22 = .ok (.iload_n 1, 1) := by decide +kernel
theorem dJ2_indexOf_4cfef_23 : decode cJ2_indexOf_4cfef 23 = .ok (.ldc 227, 2) := by decide +kernel
theorem dJ2_indexOf_4cfef_25 : decode cJ2_indexOf_4cfef 25 = .ok (.if_icmp .ge 11, 3) := by decide +kernel
theorem dJ2_indexOf_4cfef_28 : decode cJ2_indexOf_4cfef 28 = .ok (.aload_n 0, 1) := by decide +kernel
theorem dJ2_indexOf_4cfef_29 : decode cJ2_indexOf_4cfef 29 = .ok (.iload_n 1, 1) := by decide +kernel
theorem dJ2_indexOf_4cfef_30 : decode cJ2_indexOf_4cfef 30 = .ok (.iload_n 2, 1) := by decide +kernel
theorem dJ2_indexOf_4cfef_31 : decode cJ2_indexOf_4cfef 31 = .ok (.iload_n 3, 1) := by decide +kernel
theorem dJ2_indexOf_4cfef_32 : decode cJ2_indexOf_4cfef 32 = .ok (.invokestatic 228, 3) := by decide +kernel
theorem dJ2_indexOf_4cfef_35 : decode cJ2_indexOf_4cfef 35 = .ok (.ireturn, 1) := by decide +kernel
theorem dJ2_indexOf_4cfef_36 : decode cJ2_indexOf_4cfef 36 = .ok (.aload_n 0, 1) := by decide +kernel
theorem dJ2_indexOf_4cfef_37 : decode cJ2_indexOf_4cfef 37 = .ok (.iload_n 1, 1) := by decide +kernel
theorem dJ2_indexOf_4cfef_38 : decode cJ2_indexOf_4cfef 38 = .ok (.iload_n 2, 1) := by decide +kernel
theorem dJ2_indexOf_4cfef_39 : decode cJ2_indexOf_4cfef 39 = .ok (.iload_n 3, 1) := by decide +kernel
theorem dJ2_indexOf_4cfef_40 : decode cJ2_indexOf_4cfef 40 = .ok (.invokestatic 232, 3) := by decide +kernel
theorem dJ2_indexOf_4cfef_43 : decode cJ2_indexOf_4cfef 43 = .ok (.ireturn, 1) := by decide +kernel
theorem dJ2_indexOfChar_4cfef_0 : decode cJ2_indexOfChar_4cfef 0 = .ok (.iload_n 2, 1) := by decide +kernel
theorem dJ2_indexOfChar_4cfef_1 : decode cJ2_indexOfChar_4cfef 1 = .ok (.iload_n 3, 1) := by decide +kernel
theorem dJ2_indexOfChar_4cfef_2 : decode cJ2_indexOfChar_4cfef 2 = .ok (.aload_n 0, 1) := by decide +kernel
theorem dJ2_indexOfChar_4cfef_3 : decode cJ2_indexOfChar_4cfef 3 = .ok (.invokestatic 96, 3) := by decide +kernel
theorem dJ2_indexOfChar_4cfef_6 : decode cJ2_indexOfChar_4cfef 6 = .ok (.aload_n 0, 1) := by decide +kernel
theorem dJ2_indexOfChar_4cfef_7 : decode cJ2_indexOfChar_4cfef 7 = .ok (.iload_n 1, 1) := by decide +kernel
theorem dJ2_indexOfChar_4cfef_8 : decode cJ2_indexOfChar_4cfef 8 = .ok (.iload_n 2, 1) := by decide +kernel
theorem dJ2_indexOfChar_4cfef_9 : decode cJ2_indexOfChar_4cfef 9 = .ok (.iload_n 3, 1) := by decide +kernel
theorem dJ2_indexOfChar_4cfef_10 : decode cJ2_indexOfChar_4cfef 10 = .ok (.invokestatic 244, 3) := by decide +kernel
theorem dJ2_indexOfChar_4cfef_13 : decode cJ2_indexOfChar_4cfef 13 = .ok (.ireturn, 1) := by decide +kernel
theorem dJ2_indexOfCharUnsafe_4cfef_0 : decode cJ2_indexOfCharUnsafe_4cfef 0 = .ok (.iload_n 2, 1) := by decide +kernel
theorem dJ2_indexOfCharUnsafe_4cfef_1 : decode cJ2_indexOfCharUnsafe_4cfef 1 = .ok (.istore 4, 2) := by decide +kernel
theorem dJ2_indexOfCharUnsafe_4cfef_3 : decode cJ2_indexOfCharUnsafe_4cfef 3 = .ok (.iload 4, 2) := by decide +kernel
theorem dJ2_indexOfCharUnsafe_4cfef_5 : decode cJ2_indexOfCharUnsafe_4cfef 5 = .ok (.iload_n 3, 1) := by decide +kernel
theorem dJ2_indexOfCharUnsafe_4cfef_6 : decode cJ2_indexOfCharUnsafe_4cfef 6 = .ok (.if_icmp .ge 22, 3) := by decide +kernel
theorem dJ2_indexOfCharUnsafe_4cfef_9 : decode cJ2_indexOfCharUnsafe_4cfef 9 = .ok (.aload_n 0, 1) := by decide +kernel
theorem dJ2_indexOfCharUnsafe_4cfef_10 : decode cJ2_indexOfCharUnsafe_4cfef 10 = .ok (.iload 4, 2) := by decide +kernel
theorem dJ2_indexOfCharUnsafe_4cfef_12 : decode cJ2_indexOfCharUnsafe_4cfef 12 = .ok (.invokestatic 71, 3) := by decide +kernel
theorem dJ2_indexOfCharUnsafe_4cfef_15 : decode cJ2_indexOfCharUnsafe_4cfef 15 = .ok (.iload_n 1, 1) := by decide +kernel
theorem dJ2_indexOfCharUnsafe_4cfef_16 : decode cJ2_indexOfCharUnsafe_4cfef 16 = .ok (.if_icmp .ne 6, 3) := by decide +kernel
theorem dJ2_indexOfCharUnsafe_4cfef_19 : decode cJ2_indexOfCharUnsafe_4cfef 19 = .ok (.iload 4, 2) := by decide +kernel
theorem dJ2_indexOfCharUnsafe_4cfef_21 : decode cJ2_indexOfCharUnsafe_4cfef 21 = .ok (.ireturn, 1) := by decide +kernel
theorem dJ2_indexOfCharUnsafe_4cfef_22 : decode cJ2_indexOfCharUnsafe_4cfef 22 = .ok (.iinc 4 1, 3) := by decide +kernel
theorem dJ2_indexOfCharUnsafe_4cfef_25 : decode cJ2_indexOfCharUnsafe_4cfef 25 = .ok (.goto (-22), 3) := by decide +kernel
theorem dJ2_indexOfCharUnsafe_4cfef_28 : decode cJ2_indexOfCharUnsafe_4cfef 28 = .ok (.iconst (-1), 1) := by decide +kernel
theorem dJ2_indexOfCharUnsafe_4cfef_29 : decode cJ2_indexOfCharUnsafe_4cfef 29 = .ok (.ireturn, 1) := by decide +kernel
theorem dJ2_indexOfSupplementary_4cfef_0 : decode cJ2_indexOfSupplementary_4cfef 0 = .ok (.iload_n 1, 1) := by decide +kernel
theorem dJ2_indexOfSupplementary_4cfef_1 : decode cJ2_indexOfSupplementary_4cfef 1 = .ok (.invokestatic 164, 3) := by decide +kernel
theorem dJ2_indexOfSupplementary_4cfef_4 : decode cJ2_indexOfSupplementary_4cfef 4 = .ok (.ifCond .eq 65, 3) := by decide +kernel
theorem dJ2_indexOfSupplementary_4cfef_7 : decode cJ2_indexOfSupplementary_4cfef 7 = .ok (.iload_n 1, 1) := by decide +kernel
theorem dJ2_indexOfSupplementary_4cfef_8 : decode cJ2_indexOfSupplementary_4cfef 8 = .ok (.invokestatic 157, 3) := by decide +kernel
theorem dJ2_indexOfSupplementary_4cfef_11 : decode cJ2_indexOfSupplementary_4cfef 11 = .ok (.istore 4, 2) := by decide +kernel
theorem dJ2_indexOfSupplementary_4cfef_13 : decode cJ2_indexOfSupplementary_4cfef 13 = .ok (.iload_n 1, 1) := by decide +kernel
theorem dJ2_indexOfSupplementary_4cfef_14 : decode cJ2_indexOfSupplementary_4cfef 14 = .ok (.invokestatic 161, 3) := by decide +kernel
theorem dJ2_indexOfSupplementary_4cfef_17 : decode cJ2_indexOfSupplementary_4cfef 17 = .ok (.istore 5, 2) := by decide +kernel
theorem dJ2_indexOfSupplementary_4cfef_19 : decode cJ2_indexOfSupplementary_4cfef 19 = .ok (.iload_n 2, 1) := by decide +kernel
theorem dJ2_indexOfSupplementary_4cfef_20 : decode cJ2_indexOfSupplementary_4cfef 20 = .ok (.iload_n 3, 1) := by decide +kernel
theorem dJ2_indexOfSupplementary_4cfef_21 : decode cJ2_indexOfSupplementary_4cfef 21 = .ok (.aload_n 0, 1) := by decide +kernel
theorem dJ2_indexOfSupplementary_4cfef_22 : decode cJ2_indexOfSupplementary_4cfef 22 = .ok (.invokestatic 96, 3) := by decide +kernel
theorem dJ2_indexOfSupplementary_4cfef_25 : decode cJ2_indexOfSupplementary_4cfef 25 = .ok (.iload_n 2, 1) := by decide +kernel
theorem dJ2_indexOfSupplementary_4cfef_26 : decode cJ2_indexOfSupplementary_4cfef 26 = .ok (.istore 6, 2) := by decide +kernel
theorem dJ2_indexOfSupplementary_4cfef_28 : decode cJ2_indexOfSupplementary_4cfef 28 = .ok (.iload 6, 2) := by decide +kernel
theorem dJ2_indexOfSupplementary_4cfef_30 : decode cJ2_indexOfSupplementary_4cfef 30 = .ok (.iload_n 3, 1) := by decide +kernel
theorem dJ2_indexOfSupplementary_4cfef_31 : decode cJ2_indexOfSupplementary_4cfef 31 = .ok (.iconst 1, 1) := by decide +kernel
theorem dJ2_indexOfSupplementary_4cfef_32 : decode cJ2_indexOfSupplementary_4cfef 32 = .ok (.isub, 1) := by decide +kernel
theorem dJ2_indexOfSupplementary_4cfef_33 : decode cJ2_indexOfSupplementary_4cfef 33 = .ok (.if_icmp .ge 36, 3) := by decide +kernel
theorem dJ2_indexOfSupplementary_4cfef_36 : decode cJ2_indexOfSupplementary_4cfef 36 = .ok (.aload_n 0, 1) := by decide +kernel
theorem dJ2_indexOfSupplementary_4cfef_37 : decode cJ2_indexOfSupplementary_4cfef 37 = .ok (.iload 6, 2) := by decide +kernel
theorem dJ2_indexOfSupplementary_4cfef_39 : decode cJ2_indexOfSupplementary_4cfef 39 = .ok (.invokestatic 71, 3) := by decide +kernel
theorem dJ2_indexOfSupplementary_4cfef_42 : decode cJ2_indexOfSupplementary_4cfef 42 = .ok (.iload 4, 2) := by decide +kernel
theorem dJ2_indexOfSupplementary_4cfef_44 : decode cJ2_indexOfSupplementary_4cfef 44 = .ok (.if_icmp .ne 19, 3) := by decide +kernel
theorem dJ2_indexOfSupplementary_4cfef_47 : decode cJ2_indexOfSupplementary_4cfef 47 = .ok (.aload_n 0, 1) := by decide +kernel
theorem dJ2_indexOfSupplementary_4cfef_48 : decode cJ2_indexOfSupplementary_4cfef 48 = .ok (.iload 6, 2) := by decide +kernel
theorem dJ2_indexOfSupplementary_4cfef_50 : decode cJ2_indexOfSupplementary_4cfef 50 = .ok (.iconst 1, 1) := by decide +kernel
theorem dJ2_indexOfSupplementary_4cfef_51 : decode cJ2_indexOfSupplementary_4cfef 51 = .ok (.iadd, 1) := by decide +kernel
theorem dJ2_indexOfSupplementary_4cfef_52 : decode cJ2_indexOfSupplementary_4cfef 52 = .ok (.invokestatic 71, 3) := by decide +kernel
theorem dJ2_indexOfSupplementary_4cfef_55 : decode cJ2_indexOfSupplementary_4cfef 55 = .ok (.iload 5, 2) := by decide +kernel
theorem dJ2_indexOfSupplementary_4cfef_57 : decode cJ2_indexOfSupplementary_4cfef 57 = .ok (.if_icmp .ne 6, 3) := by decide +kernel
theorem dJ2_indexOfSupplementary_4cfef_60 : decode cJ2_indexOfSupplementary_4cfef 60 = .ok (.iload 6, 2) := by decide +kernel
theorem dJ2_indexOfSupplementary_4cfef_62 : decode cJ2_indexOfSupplementary_4cfef 62 = .ok (.ireturn, 1) := by decide +kernel
theorem dJ2_indexOfSupplementary_4cfef_63 : decode cJ2_indexOfSupplementary_4cfef 63 = .ok (.iinc 6 1, 3) := by decide +kernel
theorem dJ2_indexOfSupplementary_4cfef_66 : decode cJ2_indexOfSupplementary_4cfef 66 = .ok (.goto (-38), 3) := by decide +kernel
theorem dJ2_indexOfSupplementary_4cfef_69 : decode cJ2_indexOfSupplementary_4cfef 69 = .ok (.iconst (-1), 1) := by decide +kernel
theorem dJ2_indexOfSupplementary_4cfef_70 : decode cJ2_indexOfSupplementary_4cfef 70 = .ok (.ireturn, 1) := by decide +kernel
theorem dJ2_charAt_3b067_0 : decode cJ2_charAt_3b067 0 = .ok (.iload_n 1, 1) := by decide +kernel
theorem dJ2_charAt_3b067_1 : decode cJ2_charAt_3b067 1 = .ok (.aload_n 0, 1) := by decide +kernel
theorem dJ2_charAt_3b067_2 : decode cJ2_charAt_3b067 2 = .ok (.invokestatic 67, 3) := by decide +kernel
theorem dJ2_charAt_3b067_5 : decode cJ2_charAt_3b067 5 = .ok (.aload_n 0, 1) := by decide +kernel
theorem dJ2_charAt_3b067_6 : decode cJ2_charAt_3b067 6 = .ok (.iload_n 1, 1) := by decide +kernel
theorem dJ2_charAt_3b067_7 : decode cJ2_charAt_3b067 7 = .ok (.invokestatic 71, 3) := by decide +kernel
theorem dJ2_charAt_3b067_10 : decode cJ2_charAt_3b067 10 = .ok (.ireturn, 1) := by decide +kernel
theorem dJ2_checkIndex_2214a_0 : decode cJ2_checkIndex_2214a 0 = .ok (.iload_n 0, 1) := by decide +kernel
theorem dJ2_checkIndex_2214a_1 : decode cJ2_checkIndex_2214a 1 = .ok (.aload_n 1, 1) := by decide +kernel
theorem dJ2_checkIndex_2214a_2 : decode cJ2_checkIndex_2214a 2 = .ok (.invokestatic 48, 3) := by decide +kernel
theorem dJ2_checkIndex_2214a_5 : decode cJ2_checkIndex_2214a 5 = .ok (.invokestatic 414, 3) := by decide +kernel
theorem dJ2_checkIndex_2214a_8 : decode cJ2_checkIndex_2214a 8 = .ok (.return_, 1) := by decide +kernel
theorem dJ2_checkBoundsBeginEnd_d044e_0 : decode cJ2_checkBoundsBeginEnd_d044e 0 = .ok (.iload_n 0, 1) := by decide +kernel
theorem dJ2_checkBoundsBeginEnd_d044e_1 : decode cJ2_checkBoundsBeginEnd_d044e 1 = .ok (.iload_n 1, 1) := by decide +kernel
theorem dJ2_checkBoundsBeginEnd_d044e_2 : decode cJ2_checkBoundsBeginEnd_d044e 2 = .ok (.aload_n 2, 1) := by decide +kernel
theorem dJ2_checkBoundsBeginEnd_d044e_3 : decode cJ2_checkBoundsBeginEnd_d044e 3 = .ok (.invokestatic 48, 3) := by decide +kernel
theorem dJ2_checkBoundsBeginEnd_d044e_6 : decode cJ2_checkBoundsBeginEnd_d044e 6 = .ok (.invokestatic 241, 3) := by decide +kernel
theorem dJ2_checkBoundsBeginEnd_d044e_9 : decode cJ2_checkBoundsBeginEnd_d044e 9 = .ok (.return_, 1) := by decide +kernel
theorem dJ3_checkIndex_8e157_0 : decode cJ3_checkIndex_8e157 0 = .ok (.iload_n 0, 1) := by decide +kernel
theorem dJ3_checkIndex_8e157_1 : decode cJ3_checkIndex_8e157 1 = .ok (.ifCond .lt 8, 3) := by decide +kernel
theorem dJ3_checkIndex_8e157_4 : decode cJ3_checkIndex_8e157 4 = .ok (.iload_n 0, 1) := by decide +kernel
theorem dJ3_checkIndex_8e157_5 : decode cJ3_checkIndex_8e157 5 = .ok (.iload_n 1, 1) := by decide +kernel
theorem dJ3_checkIndex_8e157_6 : decode cJ3_checkIndex_8e157 6 = .ok (.if_icmp .lt 10, 3) := by decide +kernel
theorem dJ3_checkIndex_8e157_9 : decode cJ3_checkIndex_8e157 9 = .ok (.aload_n 2, 1) := by decide +kernel
theorem dJ3_checkIndex_8e157_10 : decode cJ3_checkIndex_8e157 10 = .ok (.iload_n 0, 1) := by decide +kernel
theorem dJ3_checkIndex_8e157_11 : decode cJ3_checkIndex_8e157 11 = .ok (.iload_n 1, 1) := by decide +kernel
theorem dJ3_checkIndex_8e157_12 : decode cJ3_checkIndex_8e157 12 = .ok (.invokestatic 95, 3) := by decide +kernel
theorem dJ3_checkIndex_8e157_15 : decode cJ3_checkIndex_8e157 15 = .ok (.athrow, 1) := by decide +kernel
theorem dJ3_checkIndex_8e157_16 : decode cJ3_checkIndex_8e157 16 = .ok (.iload_n 0, 1) := by decide +kernel
theorem dJ3_checkIndex_8e157_17 : decode cJ3_checkIndex_8e157 17 = .ok (.ireturn, 1) := by decide +kernel
theorem dJ3_checkFromToIndex_8c36e_0 : decode cJ3_checkFromToIndex_8c36e 0 = .ok (.iload_n 0, 1) := by decide +kernel
theorem dJ3_checkFromToIndex_8c36e_1 : decode cJ3_checkFromToIndex_8c36e 1 = .ok (.ifCond .lt 13, 3) := by decide +kernel
theorem dJ3_checkFromToIndex_8c36e_4 : decode cJ3_checkFromToIndex_8c36e 4 = .ok (.iload_n 0, 1) := by decide +kernel
theorem dJ3_checkFromToIndex_8c36e_5 : decode cJ3_checkFromToIndex_8c36e 5 = .ok (.iload_n 1, 1) := by decide +kernel
theorem dJ3_checkFromToIndex_8c36e_6 : decode cJ3_checkFromToIndex_8c36e 6 = .ok (.if_icmp .gt 8, 3) := by decide +kernel
theorem dJ3_checkFromToIndex_8c36e_9 : decode cJ3_checkFromToIndex_8c36e 9 = .ok (.iload_n 1, 1) := by decide +kernel
theorem dJ3_checkFromToIndex_8c36e_10 : decode cJ3_checkFromToIndex_8c36e 10 = .ok (.iload_n 2, 1) := by decide +kernel
theorem dJ3_checkFromToIndex_8c36e_11 : decode cJ3_checkFromToIndex_8c36e 11 = .ok (.if_icmp .le 11, 3) := by decide +kernel
theorem dJ3_checkFromToIndex_8c36e_14 : decode cJ3_checkFromToIndex_8c36e 14 = .ok (.aload_n 3, 1) := by decide +kernel
theorem dJ3_checkFromToIndex_8c36e_15 : decode cJ3_checkFromToIndex_8c36e 15 = .ok (.iload_n 0, 1) := by decide +kernel
theorem dJ3_checkFromToIndex_8c36e_16 : decode cJ3_checkFromToIndex_8c36e 16 = .ok (.iload_n 1, 1) := by decide +kernel
theorem dJ3_checkFromToIndex_8c36e_17 : decode cJ3_checkFromToIndex_8c36e 17 = .ok (.iload_n 2, 1) := by decide +kernel
theorem dJ3_checkFromToIndex_8c36e_18 : decode cJ3_checkFromToIndex_8c36e 18 = .ok (.invokestatic 99, 3) := by decide +kernel
theorem dJ3_checkFromToIndex_8c36e_21 : decode cJ3_checkFromToIndex_8c36e 21 = .ok (.athrow, 1) := by decide +kernel
theorem dJ3_checkFromToIndex_8c36e_22 : decode cJ3_checkFromToIndex_8c36e 22 = .ok (.iload_n 0, 1) := by decide +kernel
theorem dJ3_checkFromToIndex_8c36e_23 : decode cJ3_checkFromToIndex_8c36e 23 = .ok (.ireturn, 1) := by decide +kernel
theorem dJ6_bitCount_0f7a4_0 : decode cJ6_bitCount_0f7a4 0 = .ok (.iload_n 0, 1) := by decide +kernel
theorem dJ6_bitCount_0f7a4_1 : decode cJ6_bitCount_0f7a4 1 = .ok (.iload_n 0, 1) := by decide +kernel
theorem dJ6_bitCount_0f7a4_2 : decode cJ6_bitCount_0f7a4 2 = .ok (.iconst 1, 1) := by decide +kernel
theorem dJ6_bitCount_0f7a4_3 : decode cJ6_bitCount_0f7a4 3 = .ok (.iushr, 1) := by decide +kernel
theorem dJ6_bitCount_0f7a4_4 : decode cJ6_bitCount_0f7a4 4 = .ok (.ldc_w 265, 3) := by decide +kernel
theorem dJ6_bitCount_0f7a4_7 : decode cJ6_bitCount_0f7a4 7 = .ok (.iand, 1) := by decide +kernel
theorem dJ6_bitCount_0f7a4_8 : decode cJ6_bitCount_0f7a4 8 = .ok (.isub, 1) := by decide +kernel
theorem dJ6_bitCount_0f7a4_9 : decode cJ6_bitCount_0f7a4 9 = .ok (.istore_n 0, 1) := by decide +kernel
theorem dJ6_bitCount_0f7a4_10 : decode cJ6_bitCount_0f7a4 10 = .ok (.iload_n 0, 1) := by decide +kernel
theorem dJ6_bitCount_0f7a4_11 : decode cJ6_bitCount_0f7a4 11 = .ok (.ldc_w 266, 3) := by decide +kernel
theorem dJ6_bitCount_0f7a4_14 : decode cJ6_bitCount_0f7a4 14 = .ok (.iand, 1) := by decide +kernel
theorem dJ6_bitCount_0f7a4_15 : decode cJ6_bitCount_0f7a4 15 = .ok (.iload_n 0, 1) := by decide +kernel
theorem dJ6_bitCount_0f7a4_16 : decode cJ6_bitCount_0f7a4 16 = .ok (.iconst 2, 1) := by decide +kernel
theorem dJ6_bitCount_0f7a4_17 : decode cJ6_bitCount_0f7a4 17 = .ok (.iushr, 1) := by decide +kernel
theorem dJ6_bitCount_0f7a4_18 : decode cJ6_bitCount_0f7a4 18 = .ok (.ldc_w 266, 3) := by decide +kernel
theorem dJ6_bitCount_0f7a4_21 : decode cJ6_bitCount_0f7a4 21 = .ok (.iand, 1) := by decide +kernel
theorem dJ6_bitCount_0f7a4_22 : decode cJ6_bitCount_0f7a4 22 = .ok (.iadd, 1) := by decide +kernel
theorem dJ6_bitCount_0f7a4_23 : decode cJ6_bitCount_0f7a4 23 = .ok (.istore_n 0, 1) := by decide +kernel
theorem dJ6_bitCount_0f7a4_24 : decode cJ6_bitCount_0f7a4 24 = .ok (.iload_n 0, 1) := by decide +kernel
theorem dJ6_bitCount_0f7a4_25 : decode cJ6_bitCount_0f7a4 25 = .ok (.iload_n 0, 1) := by decide +kernel
theorem dJ6_bitCount_0f7a4_26 : decode cJ6_bitCount_0f7a4 26 = .ok (.iconst 4, 1) := by decide +kernel
theorem dJ6_bitCount_0f7a4_27 : decode cJ6_bitCount_0f7a4 27 = .ok (.iushr, 1) := by decide +kernel
theorem dJ6_bitCount_0f7a4_28 : decode cJ6_bitCount_0f7a4 28 = .ok (.iadd, 1) := by decide +kernel
theorem dJ6_bitCount_0f7a4_29 : decode cJ6_bitCount_0f7a4 29 = .ok (.ldc_w 267, 3) := by decide +kernel
theorem dJ6_bitCount_0f7a4_32 : decode cJ6_bitCount_0f7a4 32 = .ok (.iand, 1) := by decide +kernel
theorem dJ6_bitCount_0f7a4_33 : decode cJ6_bitCount_0f7a4 33 = .ok (.istore_n 0, 1) := by decide +kernel
theorem dJ6_bitCount_0f7a4_34 : decode cJ6_bitCount_0f7a4 34 = .ok (.iload_n 0, 1) := by decide +kernel
theorem dJ6_bitCount_0f7a4_35 : decode cJ6_bitCount_0f7a4 35 = .ok (.iload_n 0, 1) := by decide +kernel
theorem dJ6_bitCount_0f7a4_36 : decode cJ6_bitCount_0f7a4 36 = .ok (.bipush 8, 2) := by decide +kernel
theorem dJ6_bitCount_0f7a4_38 : decode cJ6_bitCount_0f7a4 38 = .ok (.iushr, 1) := by decide +kernel
theorem dJ6_bitCount_0f7a4_39 : decode cJ6_bitCount_0f7a4 39 = .ok (.iadd, 1) := by decide +kernel
theorem dJ6_bitCount_0f7a4_40 : decode cJ6_bitCount_0f7a4 40 = .ok (.istore_n 0, 1) := by decide +kernel
theorem dJ6_bitCount_0f7a4_41 : decode cJ6_bitCount_0f7a4 41 = .ok (.iload_n 0, 1) := by decide +kernel
theorem dJ6_bitCount_0f7a4_42 : decode cJ6_bitCount_0f7a4 42 = .ok (.iload_n 0, 1) := by decide +kernel
theorem dJ6_bitCount_0f7a4_43 : decode cJ6_bitCount_0f7a4 43 = .ok (.bipush 16, 2) := by decide +kernel
theorem dJ6_bitCount_0f7a4_45 : decode cJ6_bitCount_0f7a4 45 = .ok (.iushr, 1) := by decide +kernel
theorem dJ6_bitCount_0f7a4_46 : decode cJ6_bitCount_0f7a4 46 = .ok (.iadd, 1) := by decide +kernel
theorem dJ6_bitCount_0f7a4_47 : decode cJ6_bitCount_0f7a4 47 = .ok (.istore_n 0, 1) := by decide +kernel
theorem dJ6_bitCount_0f7a4_48 : decode cJ6_bitCount_0f7a4 48 = .ok (.iload_n 0, 1) := by decide +kernel
theorem dJ6_bitCount_0f7a4_49 : decode cJ6_bitCount_0f7a4 49 = .ok (.bipush 63, 2) := by decide +kernel
theorem dJ6_bitCount_0f7a4_51 : decode cJ6_bitCount_0f7a4 51 = .ok (.iand, 1) := by decide +kernel
theorem dJ6_bitCount_0f7a4_52 : decode cJ6_bitCount_0f7a4 52 = .ok (.ireturn, 1) := by decide +kernel
theorem dJ9_floorMod_7cf53_0 : decode cJ9_floorMod_7cf53 0 = .ok (.iload_n 0, 1) := by decide +kernel
theorem dJ9_floorMod_7cf53_1 : decode cJ9_floorMod_7cf53 1 = .ok (.iload_n 1, 1) := by decide +kernel
theorem dJ9_floorMod_7cf53_2 : decode cJ9_floorMod_7cf53 2 = .ok (.irem, 1) := by decide +kernel
theorem dJ9_floorMod_7cf53_3 : decode cJ9_floorMod_7cf53 3 = .ok (.istore_n 2, 1) := by decide +kernel
theorem dJ9_floorMod_7cf53_4 : decode cJ9_floorMod_7cf53 4 = .ok (.iload_n 0, 1) := by decide +kernel
theorem dJ9_floorMod_7cf53_5 : decode cJ9_floorMod_7cf53 5 = .ok (.iload_n 1, 1) := by decide +kernel
theorem dJ9_floorMod_7cf53_6 : decode cJ9_floorMod_7cf53 6 = .ok (.ixor, 1) := by decide +kernel
theorem dJ9_floorMod_7cf53_7 : decode cJ9_floorMod_7cf53 7 = .ok (.ifCond .ge 11, 3) := by decide +kernel
theorem dJ9_floorMod_7cf53_10 : decode cJ9_floorMod_7cf53 10 = .ok (.iload_n 2, 1) := by decide +kernel
theorem dJ9_floorMod_7cf53_11 : decode cJ9_floorMod_7cf53 11 = .ok (.ifCond .eq 7, 3) := by decide +kernel
theorem dJ9_floorMod_7cf53_14 : decode cJ9_floorMod_7cf53 14 = .ok (.iload_n 2, 1) := by decide +kernel
theorem dJ9_floorMod_7cf53_15 : decode cJ9_floorMod_7cf53 15 = .ok (.iload_n 1, 1) := by decide +kernel
theorem dJ9_floorMod_7cf53_16 : decode cJ9_floorMod_7cf53 16 = .ok (.iadd, 1) := by decide +kernel
theorem dJ9_floorMod_7cf53_17 : decode cJ9_floorMod_7cf53 17 = .ok (.ireturn, 1) := by decide +kernel
theorem dJ9_floorMod_7cf53_18 : decode cJ9_floorMod_7cf53 18 = .ok (.iload_n 2, 1) := by decide +kernel
theorem dJ9_floorMod_7cf53_19 : decode cJ9_floorMod_7cf53 19 = .ok (.ireturn, 1) := by decide +kernel
theorem dJ9_max_7cf53_0 : decode cJ9_max_7cf53 0 = .ok (.iload_n 0, 1) := by decide +kernel
theorem dJ9_max_7cf53_1 : decode cJ9_max_7cf53 1 = .ok (.iload_n 1, 1) := by decide +kernel
theorem dJ9_max_7cf53_2 : decode cJ9_max_7cf53 2 = .ok (.if_icmp .lt 7, 3) := by decide +kernel
theorem dJ9_max_7cf53_5 : decode cJ9_max_7cf53 5 = .ok (.iload_n 0, 1) := by decide +kernel
theorem dJ9_max_7cf53_6 : decode cJ9_max_7cf53 6 = .ok (.goto 4, 3) := by decide +kernel
theorem dJ9_max_7cf53_9 : decode cJ9_max_7cf53 9 = .ok (.iload_n 1, 1) := by decide +kernel
theorem dJ9_max_7cf53_10 : decode cJ9_max_7cf53 10 = .ok (.ireturn, 1) := by decide +kernel
theorem dJ9_max_f86c9_0 : decode cJ9_max_f86c9 0 = .ok (.lload_n 0, 1) := by decide +kernel
theorem dJ9_max_f86c9_1 : decode cJ9_max_f86c9 1 = .ok (.lload_n 2, 1) := by decide +kernel
theorem dJ9_max_f86c9_2 : decode cJ9_max_f86c9 2 = .ok (.lcmp, 1) := by decide +kernel
theorem dJ9_max_f86c9_3 : decode cJ9_max_f86c9 3 = .ok (.ifCond .lt 7, 3) := by decide +kernel
theorem dJ9_max_f86c9_6 : decode cJ9_max_f86c9 6 = .ok (.lload_n 0, 1) := by decide +kernel
theorem dJ9_max_f86c9_7 : decode cJ9_max_f86c9 7 = .ok (.goto 4, 3) := by decide +kernel
theorem dJ9_max_f86c9_10 : decode cJ9_max_f86c9 10 = .ok (.lload_n 2, 1) := by decide +kernel
theorem dJ9_max_f86c9_11 : decode cJ9_max_f86c9 11 = .ok (.lreturn, 1) := by decide +kernel
theorem dJ9_min_7cf53_0 : decode cJ9_min_7cf53 0 = .ok (.iload_n 0, 1) := by decide +kernel
theorem dJ9_min_7cf53_1 : decode cJ9_min_7cf53 1 = .ok (.iload_n 1, 1) := by decide +kernel
theorem dJ9_min_7cf53_2 : decode cJ9_min_7cf53 2 = .ok (.if_icmp .gt 7, 3) := by decide +kernel
theorem dJ9_min_7cf53_5 : decode cJ9_min_7cf53 5 = .ok (.iload_n 0, 1) := by decide +kernel
theorem dJ9_min_7cf53_6 : decode cJ9_min_7cf53 6 = .ok (.goto 4, 3) := by decide +kernel
theorem dJ9_min_7cf53_9 : decode cJ9_min_7cf53 9 = .ok (.iload_n 1, 1) := by decide +kernel
theorem dJ9_min_7cf53_10 : decode cJ9_min_7cf53 10 = .ok (.ireturn, 1) := by decide +kernel
theorem dJ9_min_f86c9_0 : decode cJ9_min_f86c9 0 = .ok (.lload_n 0, 1) := by decide +kernel
theorem dJ9_min_f86c9_1 : decode cJ9_min_f86c9 1 = .ok (.lload_n 2, 1) := by decide +kernel
theorem dJ9_min_f86c9_2 : decode cJ9_min_f86c9 2 = .ok (.lcmp, 1) := by decide +kernel
theorem dJ9_min_f86c9_3 : decode cJ9_min_f86c9 3 = .ok (.ifCond .gt 7, 3) := by decide +kernel
theorem dJ9_min_f86c9_6 : decode cJ9_min_f86c9 6 = .ok (.lload_n 0, 1) := by decide +kernel
theorem dJ9_min_f86c9_7 : decode cJ9_min_f86c9 7 = .ok (.goto 4, 3) := by decide +kernel
theorem dJ9_min_f86c9_10 : decode cJ9_min_f86c9 10 = .ok (.lload_n 2, 1) := by decide +kernel
theorem dJ9_min_f86c9_11 : decode cJ9_min_f86c9 11 = .ok (.lreturn, 1) := by decide +kernel
theorem dL_wheels_0 : decode cL_wheels 0 = .ok (.aload_n 3, 1) := by decide +kernel
theorem dL_wheels_1 : decode cL_wheels 1 = .ok (.iconst 0, 1) := by decide +kernel
theorem dL_wheels_2 : decode cL_wheels 2 = .ok (.aload_n 0, 1) := by decide +kernel
theorem dL_wheels_3 : decode cL_wheels 3 = .ok (.iload_n 1, 1) := by decide +kernel
theorem dL_wheels_4 : decode cL_wheels 4 = .ok (.iload_n 2, 1) := by decide +kernel
theorem dL_wheels_5 : decode cL_wheels 5 = .ok (.invokevirtual 7, 3) := by decide +kernel
theorem dL_wheels_8 : decode cL_wheels 8 = .ok (.i2l, 1) := by decide +kernel
theorem dL_wheels_9 : decode cL_wheels 9 = .ok (.lastore, 1) := by decide +kernel
theorem dL_wheels_10 : decode cL_wheels 10 = .ok (.goto 7, 3) := by decide +kernel
theorem dL_wheels_13 : decode cL_wheels 13 = .ok (.astore 4, 2) := by decide +kernel
theorem dL_wheels_15 : decode cL_wheels 15 = .ok (.iconst 1, 1) := by decide +kernel
theorem dL_wheels_16 : decode cL_wheels 16 = .ok (.ireturn, 1) := by decide +kernel
theorem dL_wheels_17 : decode cL_wheels 17 = .ok (.iconst 0, 1) := by decide +kernel
theorem dL_wheels_18 : decode cL_wheels 18 = .ok (.ireturn, 1) := by decide +kernel
theorem dL_law_0 : decode cL_law 0 = .ok (.new 8, 3) := by decide +kernel
theorem dL_law_3 : decode cL_law 3 = .ok (.dup, 1) := by decide +kernel
theorem dL_law_4 : decode cL_law 4 = .ok (.invokespecial 15, 3) := by decide +kernel
theorem dL_law_7 : decode cL_law 7 = .ok (.astore_n 1, 1) := by decide +kernel
theorem dL_law_8 : decode cL_law 8 = .ok (.new 16, 3) := by decide +kernel
theorem dL_law_11 : decode cL_law 11 = .ok (.dup, 1) := by decide +kernel
theorem dL_law_12 : decode cL_law 12 = .ok (.invokespecial 18, 3) := by decide +kernel
theorem dL_law_15 : decode cL_law 15 = .ok (.astore_n 2, 1) := by decide +kernel
theorem dL_law_16 : decode cL_law 16 = .ok (.iconst 1, 1) := by decide +kernel
theorem dL_law_17 : decode cL_law 17 = .ok (.newarray .long, 2) := by decide +kernel
theorem dL_law_19 : decode cL_law 19 = .ok (.astore_n 3, 1) := by decide +kernel
theorem dL_law_20 : decode cL_law 20 = .ok (.iconst 0, 1) := by decide +kernel
theorem dL_law_21 : decode cL_law 21 = .ok (.istore 4, 2) := by decide +kernel
theorem dL_law_23 : decode cL_law 23 = .ok (.iload 4, 2) := by decide +kernel
theorem dL_law_25 : decode cL_law 25 = .ok (.aload_n 0, 1) := by decide +kernel
theorem dL_law_26 : decode cL_law 26 = .ok (.arraylength, 1) := by decide +kernel
theorem dL_law_27 : decode cL_law 27 = .ok (.bipush 6, 2) := by decide +kernel
theorem dL_law_29 : decode cL_law 29 = .ok (.isub, 1) := by decide +kernel
theorem dL_law_30 : decode cL_law 30 = .ok (.if_icmp .gt 1619, 3) := by decide +kernel
theorem dL_law_33 : decode cL_law 33 = .ok (.aload_n 0, 1) := by decide +kernel
theorem dL_law_34 : decode cL_law 34 = .ok (.iload 4, 2) := by decide +kernel
theorem dL_law_36 : decode cL_law 36 = .ok (.iaload, 1) := by decide +kernel
theorem dL_law_37 : decode cL_law 37 = .ok (.bipush 63, 2) := by decide +kernel
theorem dL_law_39 : decode cL_law 39 = .ok (.iand, 1) := by decide +kernel
theorem dL_law_40 : decode cL_law 40 = .ok (.tableswitch 1603 0 39 #[176, 249, 274, 299, 324, 349, 386, 454, 491, 516, 553, 578, 615, 652, 677, 702, 727, 796, 821, 834, 871, 908, 945, 982, 1007, 1044, 1081, 1158, 1183, 1208, 1257, 1294, 1367, 1416, 1465, 1490, 1527, 1552, 1565, 1578], 176) := by decide +kernel
theorem dL_law_216 : decode cL_law 216 = .ok (.aload_n 1, 1) := by decide +kernel
theorem dL_law_217 : decode cL_law 217 = .ok (.aload_n 0, 1) := by decide +kernel
theorem dL_law_218 : decode cL_law 218 = .ok (.iload 4, 2) := by decide +kernel
theorem dL_law_220 : decode cL_law 220 = .ok (.iconst 1, 1) := by decide +kernel
theorem dL_law_221 : decode cL_law 221 = .ok (.iadd, 1) := by decide +kernel
theorem dL_law_222 : decode cL_law 222 = .ok (.iaload, 1) := by decide +kernel
theorem dL_law_223 : decode cL_law 223 = .ok (.aload_n 0, 1) := by decide +kernel
theorem dL_law_224 : decode cL_law 224 = .ok (.iload 4, 2) := by decide +kernel
theorem dL_law_226 : decode cL_law 226 = .ok (.iconst 2, 1) := by decide +kernel
theorem dL_law_227 : decode cL_law 227 = .ok (.iadd, 1) := by decide +kernel
theorem dL_law_228 : decode cL_law 228 = .ok (.iaload, 1) := by decide +kernel
theorem dL_law_229 : decode cL_law 229 = .ok (.aload_n 0, 1) := by decide +kernel
theorem dL_law_230 : decode cL_law 230 = .ok (.iload 4, 2) := by decide +kernel
theorem dL_law_232 : decode cL_law 232 = .ok (.iconst 3, 1) := by decide +kernel
theorem dL_law_233 : decode cL_law 233 = .ok (.iadd, 1) := by decide +kernel
theorem dL_law_234 : decode cL_law 234 = .ok (.iaload, 1) := by decide +kernel
theorem dL_law_235 : decode cL_law 235 = .ok (.aload_n 0, 1) := by decide +kernel
theorem dL_law_236 : decode cL_law 236 = .ok (.iload 4, 2) := by decide +kernel
theorem dL_law_238 : decode cL_law 238 = .ok (.iconst 4, 1) := by decide +kernel
theorem dL_law_239 : decode cL_law 239 = .ok (.iadd, 1) := by decide +kernel
theorem dL_law_240 : decode cL_law 240 = .ok (.iaload, 1) := by decide +kernel
theorem dL_law_241 : decode cL_law 241 = .ok (.aload_n 0, 1) := by decide +kernel
theorem dL_law_242 : decode cL_law 242 = .ok (.iload 4, 2) := by decide +kernel
theorem dL_law_244 : decode cL_law 244 = .ok (.iconst 5, 1) := by decide +kernel
theorem dL_law_245 : decode cL_law 245 = .ok (.iadd, 1) := by decide +kernel
theorem dL_law_246 : decode cL_law 246 = .ok (.iaload, 1) := by decide +kernel
theorem dL_law_247 : decode cL_law 247 = .ok (.invokevirtual 19, 3) := by decide +kernel
theorem dL_law_250 : decode cL_law 250 = .ok (.aload_n 2, 1) := by decide +kernel
theorem dL_law_251 : decode cL_law 251 = .ok (.aload_n 0, 1) := by decide +kernel
theorem dL_law_252 : decode cL_law 252 = .ok (.iload 4, 2) := by decide +kernel
theorem dL_law_254 : decode cL_law 254 = .ok (.iconst 1, 1) := by decide +kernel
theorem dL_law_255 : decode cL_law 255 = .ok (.iadd, 1) := by decide +kernel
theorem dL_law_256 : decode cL_law 256 = .ok (.iaload, 1) := by decide +kernel
theorem dL_law_257 : decode cL_law 257 = .ok (.aload_n 0, 1) := by decide +kernel
theorem dL_law_258 : decode cL_law 258 = .ok (.iload 4, 2) := by decide +kernel
theorem dL_law_260 : decode cL_law 260 = .ok (.iconst 2, 1) := by decide +kernel
theorem dL_law_261 : decode cL_law 261 = .ok (.iadd, 1) := by decide +kernel
theorem dL_law_262 : decode cL_law 262 = .ok (.iaload, 1) := by decide +kernel
theorem dL_law_263 : decode cL_law 263 = .ok (.aload_n 0, 1) := by decide +kernel
theorem dL_law_264 : decode cL_law 264 = .ok (.iload 4, 2) := by decide +kernel
theorem dL_law_266 : decode cL_law 266 = .ok (.iconst 3, 1) := by decide +kernel
theorem dL_law_267 : decode cL_law 267 = .ok (.iadd, 1) := by decide +kernel
theorem dL_law_268 : decode cL_law 268 = .ok (.iaload, 1) := by decide +kernel
theorem dL_law_269 : decode cL_law 269 = .ok (.aload_n 0, 1) := by decide +kernel
theorem dL_law_270 : decode cL_law 270 = .ok (.iload 4, 2) := by decide +kernel
theorem dL_law_272 : decode cL_law 272 = .ok (.iconst 4, 1) := by decide +kernel
theorem dL_law_273 : decode cL_law 273 = .ok (.iadd, 1) := by decide +kernel
theorem dL_law_274 : decode cL_law 274 = .ok (.iaload, 1) := by decide +kernel
theorem dL_law_275 : decode cL_law 275 = .ok (.aload_n 0, 1) := by decide +kernel
theorem dL_law_276 : decode cL_law 276 = .ok (.iload 4, 2) := by decide +kernel
theorem dL_law_278 : decode cL_law 278 = .ok (.iconst 5, 1) := by decide +kernel
theorem dL_law_279 : decode cL_law 279 = .ok (.iadd, 1) := by decide +kernel
theorem dL_law_280 : decode cL_law 280 = .ok (.iaload, 1) := by decide +kernel
theorem dL_law_281 : decode cL_law 281 = .ok (.invokevirtual 23, 3) := by decide +kernel
theorem dL_law_284 : decode cL_law 284 = .ok (.if_icmp .eq 1359, 3) := by decide +kernel
theorem dL_law_287 : decode cL_law 287 = .ok (.iconst 0, 1) := by decide +kernel
theorem dL_law_288 : decode cL_law 288 = .ok (.ireturn, 1) := by decide +kernel
theorem dL_law_289 : decode cL_law 289 = .ok (.aload_n 1, 1) := by decide +kernel
theorem dL_law_290 : decode cL_law 290 = .ok (.aload_n 0, 1) := by decide +kernel
theorem dL_law_291 : decode cL_law 291 = .ok (.iload 4, 2) := by decide +kernel
theorem dL_law_293 : decode cL_law 293 = .ok (.iconst 1, 1) := by decide +kernel
theorem dL_law_294 : decode cL_law 294 = .ok (.iadd, 1) := by decide +kernel
theorem dL_law_295 : decode cL_law 295 = .ok (.iaload, 1) := by decide +kernel
theorem dL_law_296 : decode cL_law 296 = .ok (.invokevirtual 24, 3) := by decide +kernel
theorem dL_law_299 : decode cL_law 299 = .ok (.aload_n 2, 1) := by decide +kernel
theorem dL_law_300 : decode cL_law 300 = .ok (.aload_n 0, 1) := by decide +kernel
theorem dL_law_301 : decode cL_law 301 = .ok (.iload 4, 2) := by decide +kernel
theorem dL_law_303 : decode cL_law 303 = .ok (.iconst 1, 1) := by decide +kernel
theorem dL_law_304 : decode cL_law 304 = .ok (.iadd, 1) := by decide +kernel
theorem dL_law_305 : decode cL_law 305 = .ok (.iaload, 1) := by decide +kernel
theorem dL_law_306 : decode cL_law 306 = .ok (.invokevirtual 28, 3) := by decide +kernel
theorem dL_law_309 : decode cL_law 309 = .ok (.if_icmp .eq 1334, 3) := by decide +kernel
theorem dL_law_312 : decode cL_law 312 = .ok (.iconst 0, 1) := by decide +kernel
theorem dL_law_313 : decode cL_law 313 = .ok (.ireturn, 1) := by decide +kernel
theorem dL_law_314 : decode cL_law 314 = .ok (.aload_n 1, 1) := by decide +kernel
theorem dL_law_315 : decode cL_law 315 = .ok (.aload_n 0, 1) := by decide +kernel
theorem dL_law_316 : decode cL_law 316 = .ok (.iload 4, 2) := by decide +kernel
theorem dL_law_318 : decode cL_law 318 = .ok (.iconst 1, 1) := by decide +kernel
theorem dL_law_319 : decode cL_law 319 = .ok (.iadd, 1) := by decide +kernel
theorem dL_law_320 : decode cL_law 320 = .ok (.iaload, 1) := by decide +kernel
theorem dL_law_321 : decode cL_law 321 = .ok (.invokevirtual 29, 3) := by decide +kernel
theorem dL_law_324 : decode cL_law 324 = .ok (.aload_n 2, 1) := by decide +kernel
