theorem dX12_worked_156 : decode cX12_worked 156 = .ok (.iconst 1, 1) := by decide +kernel
theorem dX12_worked_157 : decode cX12_worked 157 = .ok (.goto 4, 3) := by decide +kernel
theorem dX12_worked_160 : decode cX12_worked 160 = .ok (.iconst 0, 1) := by decide +kernel
theorem dX12_worked_161 : decode cX12_worked 161 = .ok (.ireturn, 1) := by decide +kernel
theorem dX12_workOut_0 : decode cX12_workOut 0 = .ok (.iconst 0, 1) := by decide +kernel
theorem dX12_workOut_1 : decode cX12_workOut 1 = .ok (.istore 4, 2) := by decide +kernel
theorem dX12_workOut_3 : decode cX12_workOut 3 = .ok (.sipush 520, 3) := by decide +kernel
theorem dX12_workOut_6 : decode cX12_workOut 6 = .ok (.iload_n 1, 1) := by decide +kernel
theorem dX12_workOut_7 : decode cX12_workOut 7 = .ok (.imul, 1) := by decide +kernel
theorem dX12_workOut_8 : decode cX12_workOut 8 = .ok (.iload_n 2, 1) := by decide +kernel
theorem dX12_workOut_9 : decode cX12_workOut 9 = .ok (.iadd, 1) := by decide +kernel
theorem dX12_workOut_10 : decode cX12_workOut 10 = .ok (.istore 5, 2) := by decide +kernel
theorem dX12_workOut_12 : decode cX12_workOut 12 = .ok (.iload 5, 2) := by decide +kernel
theorem dX12_workOut_14 : decode cX12_workOut 14 = .ok (.sipush 520, 3) := by decide +kernel
theorem dX12_workOut_17 : decode cX12_workOut 17 = .ok (.iload_n 1, 1) := by decide +kernel
theorem dX12_workOut_18 : decode cX12_workOut 18 = .ok (.imul, 1) := by decide +kernel
theorem dX12_workOut_19 : decode cX12_workOut 19 = .ok (.iload_n 3, 1) := by decide +kernel
theorem dX12_workOut_20 : decode cX12_workOut 20 = .ok (.iadd, 1) := by decide +kernel
theorem dX12_workOut_21 : decode cX12_workOut 21 = .ok (.if_icmp .ge 150, 3) := by decide +kernel
theorem dX12_workOut_24 : decode cX12_workOut 24 = .ok (.aload_n 0, 1) := by decide +kernel
theorem dX12_workOut_25 : decode cX12_workOut 25 = .ok (.getfield 13, 3) := by decide +kernel
theorem dX12_workOut_28 : decode cX12_workOut 28 = .ok (.iload 5, 2) := by decide +kernel
theorem dX12_workOut_30 : decode cX12_workOut 30 = .ok (.iaload, 1) := by decide +kernel
theorem dX12_workOut_31 : decode cX12_workOut 31 = .ok (.ifCond .eq 14, 3) := by decide +kernel
theorem dX12_workOut_34 : decode cX12_workOut 34 = .ok (.aload_n 0, 1) := by decide +kernel
theorem dX12_workOut_35 : decode cX12_workOut 35 = .ok (.getfield 13, 3) := by decide +kernel
theorem dX12_workOut_38 : decode cX12_workOut 38 = .ok (.iload 5, 2) := by decide +kernel
theorem dX12_workOut_40 : decode cX12_workOut 40 = .ok (.iaload, 1) := by decide +kernel
theorem dX12_workOut_41 : decode cX12_workOut 41 = .ok (.iconst 1, 1) := by decide +kernel
theorem dX12_workOut_42 : decode cX12_workOut 42 = .ok (.if_icmp .ne 48, 3) := by decide +kernel
theorem dX12_workOut_45 : decode cX12_workOut 45 = .ok (.aload_n 0, 1) := by decide +kernel
theorem dX12_workOut_46 : decode cX12_workOut 46 = .ok (.getfield 37, 3) := by decide +kernel
theorem dX12_workOut_49 : decode cX12_workOut 49 = .ok (.iload 4, 2) := by decide +kernel
theorem dX12_workOut_51 : decode cX12_workOut 51 = .ok (.aload_n 0, 1) := by decide +kernel
theorem dX12_workOut_52 : decode cX12_workOut 52 = .ok (.getfield 13, 3) := by decide +kernel
theorem dX12_workOut_55 : decode cX12_workOut 55 = .ok (.iload 5, 2) := by decide +kernel
theorem dX12_workOut_57 : decode cX12_workOut 57 = .ok (.iaload, 1) := by decide +kernel
theorem dX12_workOut_58 : decode cX12_workOut 58 = .ok (.ifCond .ne 13, 3) := by decide +kernel
theorem dX12_workOut_61 : decode cX12_workOut 61 = .ok (.aload_n 0, 1) := by decide +kernel
theorem dX12_workOut_62 : decode cX12_workOut 62 = .ok (.getfield 16, 3) := by decide +kernel
theorem dX12_workOut_65 : decode cX12_workOut 65 = .ok (.iload 5, 2) := by decide +kernel
theorem dX12_workOut_67 : decode cX12_workOut 67 = .ok (.iaload, 1) := by decide +kernel
theorem dX12_workOut_68 : decode cX12_workOut 68 = .ok (.goto 15, 3) := by decide +kernel
theorem dX12_workOut_71 : decode cX12_workOut 71 = .ok (.aload_n 0, 1) := by decide +kernel
theorem dX12_workOut_72 : decode cX12_workOut 72 = .ok (.getfield 34, 3) := by decide +kernel
theorem dX12_workOut_75 : decode cX12_workOut 75 = .ok (.aload_n 0, 1) := by decide +kernel
theorem dX12_workOut_76 : decode cX12_workOut 76 = .ok (.getfield 16, 3) := by decide +kernel
theorem dX12_workOut_79 : decode cX12_workOut 79 = .ok (.iload 5, 2) := by decide +kernel
theorem dX12_workOut_81 : decode cX12_workOut 81 = .ok (.iaload, 1) := by decide +kernel
theorem dX12_workOut_82 : decode cX12_workOut 82 = .ok (.iaload, 1) := by decide +kernel
theorem dX12_workOut_83 : decode cX12_workOut 83 = .ok (.iastore, 1) := by decide +kernel
theorem dX12_workOut_84 : decode cX12_workOut 84 = .ok (.iinc 4 1, 3) := by decide +kernel
theorem dX12_workOut_87 : decode cX12_workOut 87 = .ok (.goto 78, 3) := by decide +kernel
theorem dX12_workOut_90 : decode cX12_workOut 90 = .ok (.aload_n 0, 1) := by decide +kernel
theorem dX12_workOut_91 : decode cX12_workOut 91 = .ok (.getfield 13, 3) := by decide +kernel
theorem dX12_workOut_94 : decode cX12_workOut 94 = .ok (.iload 5, 2) := by decide +kernel
theorem dX12_workOut_96 : decode cX12_workOut 96 = .ok (.iaload, 1) := by decide +kernel
theorem dX12_workOut_97 : decode cX12_workOut 97 = .ok (.bipush 9, 2) := by decide +kernel
theorem dX12_workOut_99 : decode cX12_workOut 99 = .ok (.if_icmp .ne 26, 3) := by decide +kernel
theorem dX12_workOut_102 : decode cX12_workOut 102 = .ok (.aload_n 0, 1) := by decide +kernel
theorem dX12_workOut_103 : decode cX12_workOut 103 = .ok (.getfield 37, 3) := by decide +kernel
theorem dX12_workOut_106 : decode cX12_workOut 106 = .ok (.iload 4, 2) := by decide +kernel
theorem dX12_workOut_108 : decode cX12_workOut 108 = .ok (.iconst 1, 1) := by decide +kernel
theorem dX12_workOut_109 : decode cX12_workOut 109 = .ok (.isub, 1) := by decide +kernel
theorem dX12_workOut_110 : decode cX12_workOut 110 = .ok (.iconst 1, 1) := by decide +kernel
theorem dX12_workOut_111 : decode cX12_workOut 111 = .ok (.aload_n 0, 1) := by decide +kernel
theorem dX12_workOut_112 : decode cX12_workOut 112 = .ok (.getfield 37, 3) := by decide +kernel
theorem dX12_workOut_115 : decode cX12_workOut 115 = .ok (.iload 4, 2) := by decide +kernel
theorem dX12_workOut_117 : decode cX12_workOut 117 = .ok (.iconst 1, 1) := by decide +kernel
theorem dX12_workOut_118 : decode cX12_workOut 118 = .ok (.isub, 1) := by decide +kernel
theorem dX12_workOut_119 : decode cX12_workOut 119 = .ok (.iaload, 1) := by decide +kernel
theorem dX12_workOut_120 : decode cX12_workOut 120 = .ok (.isub, 1) := by decide +kernel
theorem dX12_workOut_121 : decode cX12_workOut 121 = .ok (.iastore, 1) := by decide +kernel
theorem dX12_workOut_122 : decode cX12_workOut 122 = .ok (.goto 43, 3) := by decide +kernel
theorem dX12_workOut_125 : decode cX12_workOut 125 = .ok (.iinc 4 (-1), 3) := by decide +kernel
theorem dX12_workOut_128 : decode cX12_workOut 128 = .ok (.aload_n 0, 1) := by decide +kernel
theorem dX12_workOut_129 : decode cX12_workOut 129 = .ok (.getfield 37, 3) := by decide +kernel
theorem dX12_workOut_132 : decode cX12_workOut 132 = .ok (.iload 4, 2) := by decide +kernel
theorem dX12_workOut_134 : decode cX12_workOut 134 = .ok (.iconst 1, 1) := by decide +kernel
theorem dX12_workOut_135 : decode cX12_workOut 135 = .ok (.isub, 1) := by decide +kernel
theorem dX12_workOut_136 : decode cX12_workOut 136 = .ok (.aload_n 0, 1) := by decide +kernel
theorem dX12_workOut_137 : decode cX12_workOut 137 = .ok (.getfield 13, 3) := by decide +kernel
theorem dX12_workOut_140 : decode cX12_workOut 140 = .ok (.iload 5, 2) := by decide +kernel
theorem dX12_workOut_142 : decode cX12_workOut 142 = .ok (.iaload, 1) := by decide +kernel
theorem dX12_workOut_143 : decode cX12_workOut 143 = .ok (.aload_n 0, 1) := by decide +kernel
theorem dX12_workOut_144 : decode cX12_workOut 144 = .ok (.getfield 37, 3) := by decide +kernel
theorem dX12_workOut_147 : decode cX12_workOut 147 = .ok (.iload 4, 2) := by decide +kernel
theorem dX12_workOut_149 : decode cX12_workOut 149 = .ok (.iconst 1, 1) := by decide +kernel
theorem dX12_workOut_150 : decode cX12_workOut 150 = .ok (.isub, 1) := by decide +kernel
theorem dX12_workOut_151 : decode cX12_workOut 151 = .ok (.iaload, 1) := by decide +kernel
theorem dX12_workOut_152 : decode cX12_workOut 152 = .ok (.i2l, 1) := by decide +kernel
theorem dX12_workOut_153 : decode cX12_workOut 153 = .ok (.aload_n 0, 1) := by decide +kernel
theorem dX12_workOut_154 : decode cX12_workOut 154 = .ok (.getfield 37, 3) := by decide +kernel
theorem dX12_workOut_157 : decode cX12_workOut 157 = .ok (.iload 4, 2) := by decide +kernel
theorem dX12_workOut_159 : decode cX12_workOut 159 = .ok (.iaload, 1) := by decide +kernel
theorem dX12_workOut_160 : decode cX12_workOut 160 = .ok (.i2l, 1) := by decide +kernel
theorem dX12_workOut_161 : decode cX12_workOut 161 = .ok (.invokestatic 227, 3) := by decide +kernel
theorem dX12_workOut_164 : decode cX12_workOut 164 = .ok (.iastore, 1) := by decide +kernel
theorem dX12_workOut_165 : decode cX12_workOut 165 = .ok (.iinc 5 1, 3) := by decide +kernel
theorem dX12_workOut_168 : decode cX12_workOut 168 = .ok (.goto (-156), 3) := by decide +kernel
theorem dX12_workOut_171 : decode cX12_workOut 171 = .ok (.aload_n 0, 1) := by decide +kernel
theorem dX12_workOut_172 : decode cX12_workOut 172 = .ok (.getfield 37, 3) := by decide +kernel
theorem dX12_workOut_175 : decode cX12_workOut 175 = .ok (.iconst 0, 1) := by decide +kernel
theorem dX12_workOut_176 : decode cX12_workOut 176 = .ok (.iaload, 1) := by decide +kernel
theorem dX12_workOut_177 : decode cX12_workOut 177 = .ok (.ireturn, 1) := by decide +kernel
theorem dX12_worthOf_0 : decode cX12_worthOf 0 = .ok (.sipush 140, 3) := by decide +kernel
theorem dX12_worthOf_3 : decode cX12_worthOf 3 = .ok (.iload_n 1, 1) := by decide +kernel
theorem dX12_worthOf_4 : decode cX12_worthOf 4 = .ok (.imul, 1) := by decide +kernel
theorem dX12_worthOf_5 : decode cX12_worthOf 5 = .ok (.istore_n 2, 1) := by decide +kernel
theorem dX12_worthOf_6 : decode cX12_worthOf 6 = .ok (.iload_n 2, 1) := by decide +kernel
theorem dX12_worthOf_7 : decode cX12_worthOf 7 = .ok (.sipush 140, 3) := by decide +kernel
theorem dX12_worthOf_10 : decode cX12_worthOf 10 = .ok (.iload_n 1, 1) := by decide +kernel
theorem dX12_worthOf_11 : decode cX12_worthOf 11 = .ok (.imul, 1) := by decide +kernel
theorem dX12_worthOf_12 : decode cX12_worthOf 12 = .ok (.aload_n 0, 1) := by decide +kernel
theorem dX12_worthOf_13 : decode cX12_worthOf 13 = .ok (.getfield 22, 3) := by decide +kernel
theorem dX12_worthOf_16 : decode cX12_worthOf 16 = .ok (.iload_n 1, 1) := by decide +kernel
theorem dX12_worthOf_17 : decode cX12_worthOf 17 = .ok (.iaload, 1) := by decide +kernel
theorem dX12_worthOf_18 : decode cX12_worthOf 18 = .ok (.iadd, 1) := by decide +kernel
theorem dX12_worthOf_19 : decode cX12_worthOf 19 = .ok (.if_icmp .ge 62, 3) := by decide +kernel
theorem dX12_worthOf_22 : decode cX12_worthOf 22 = .ok (.aload_n 0, 1) := by decide +kernel
theorem dX12_worthOf_23 : decode cX12_worthOf 23 = .ok (.getfield 25, 3) := by decide +kernel
theorem dX12_worthOf_26 : decode cX12_worthOf 26 = .ok (.iload_n 2, 1) := by decide +kernel
theorem dX12_worthOf_27 : decode cX12_worthOf 27 = .ok (.iaload, 1) := by decide +kernel
theorem dX12_worthOf_28 : decode cX12_worthOf 28 = .ok (.aload_n 0, 1) := by decide +kernel
theorem dX12_worthOf_29 : decode cX12_worthOf 29 = .ok (.getfield 28, 3) := by decide +kernel
theorem dX12_worthOf_32 : decode cX12_worthOf 32 = .ok (.iload_n 2, 1) := by decide +kernel
theorem dX12_worthOf_33 : decode cX12_worthOf 33 = .ok (.iaload, 1) := by decide +kernel
theorem dX12_worthOf_34 : decode cX12_worthOf 34 = .ok (.if_icmp .eq 23, 3) := by decide +kernel
theorem dX12_worthOf_37 : decode cX12_worthOf 37 = .ok (.aload_n 0, 1) := by decide +kernel
theorem dX12_worthOf_38 : decode cX12_worthOf 38 = .ok (.iload_n 1, 1) := by decide +kernel
theorem dX12_worthOf_39 : decode cX12_worthOf 39 = .ok (.aload_n 0, 1) := by decide +kernel
theorem dX12_worthOf_40 : decode cX12_worthOf 40 = .ok (.getfield 25, 3) := by decide +kernel
theorem dX12_worthOf_43 : decode cX12_worthOf 43 = .ok (.iload_n 2, 1) := by decide +kernel
theorem dX12_worthOf_44 : decode cX12_worthOf 44 = .ok (.iaload, 1) := by decide +kernel
theorem dX12_worthOf_45 : decode cX12_worthOf 45 = .ok (.aload_n 0, 1) := by decide +kernel
theorem dX12_worthOf_46 : decode cX12_worthOf 46 = .ok (.getfield 28, 3) := by decide +kernel
theorem dX12_worthOf_49 : decode cX12_worthOf 49 = .ok (.iload_n 2, 1) := by decide +kernel
theorem dX12_worthOf_50 : decode cX12_worthOf 50 = .ok (.iaload, 1) := by decide +kernel
theorem dX12_worthOf_51 : decode cX12_worthOf 51 = .ok (.invokevirtual 231, 3) := by decide +kernel
theorem dX12_worthOf_54 : decode cX12_worthOf 54 = .ok (.ifCond .eq 21, 3) := by decide +kernel
theorem dX12_worthOf_57 : decode cX12_worthOf 57 = .ok (.aload_n 0, 1) := by decide +kernel
theorem dX12_worthOf_58 : decode cX12_worthOf 58 = .ok (.iload_n 1, 1) := by decide +kernel
theorem dX12_worthOf_59 : decode cX12_worthOf 59 = .ok (.aload_n 0, 1) := by decide +kernel
theorem dX12_worthOf_60 : decode cX12_worthOf 60 = .ok (.getfield 28, 3) := by decide +kernel
theorem dX12_worthOf_63 : decode cX12_worthOf 63 = .ok (.iload_n 2, 1) := by decide +kernel
theorem dX12_worthOf_64 : decode cX12_worthOf 64 = .ok (.iaload, 1) := by decide +kernel
theorem dX12_worthOf_65 : decode cX12_worthOf 65 = .ok (.aload_n 0, 1) := by decide +kernel
theorem dX12_worthOf_66 : decode cX12_worthOf 66 = .ok (.getfield 31, 3) := by decide +kernel
theorem dX12_worthOf_69 : decode cX12_worthOf 69 = .ok (.iload_n 2, 1) := by decide +kernel
theorem dX12_worthOf_70 : decode cX12_worthOf 70 = .ok (.iaload, 1) := by decide +kernel
theorem dX12_worthOf_71 : decode cX12_worthOf 71 = .ok (.invokevirtual 231, 3) := by decide +kernel
theorem dX12_worthOf_74 : decode cX12_worthOf 74 = .ok (.ireturn, 1) := by decide +kernel
theorem dX12_worthOf_75 : decode cX12_worthOf 75 = .ok (.iinc 2 1, 3) := by decide +kernel
theorem dX12_worthOf_78 : decode cX12_worthOf 78 = .ok (.goto (-72), 3) := by decide +kernel
theorem dX12_worthOf_81 : decode cX12_worthOf 81 = .ok (.iconst 0, 1) := by decide +kernel
theorem dX12_worthOf_82 : decode cX12_worthOf 82 = .ok (.ireturn, 1) := by decide +kernel
theorem dX12_number_0 : decode cX12_number 0 = .ok (.aload_n 0, 1) := by decide +kernel
theorem dX12_number_1 : decode cX12_number 1 = .ok (.invokevirtual 149, 3) := by decide +kernel
theorem dX12_number_4 : decode cX12_number 4 = .ok (.invokestatic 152, 3) := by decide +kernel
theorem dX12_number_7 : decode cX12_number 7 = .ok (.ifCond .ne 9, 3) := by decide +kernel
theorem dX12_number_10 : decode cX12_number 10 = .ok (.aload_n 0, 1) := by decide +kernel
theorem dX12_number_11 : decode cX12_number 11 = .ok (.invokevirtual 146, 3) := by decide +kernel
theorem dX12_number_14 : decode cX12_number 14 = .ok (.iload_n 1, 1) := by decide +kernel
theorem dX12_number_15 : decode cX12_number 15 = .ok (.ireturn, 1) := by decide +kernel
theorem dX12_number_16 : decode cX12_number 16 = .ok (.aload_n 0, 1) := by decide +kernel
theorem dX12_number_17 : decode cX12_number 17 = .ok (.invokevirtual 133, 3) := by decide +kernel
theorem dX12_number_20 : decode cX12_number 20 = .ok (.bipush 48, 2) := by decide +kernel
theorem dX12_number_22 : decode cX12_number 22 = .ok (.isub, 1) := by decide +kernel
theorem dX12_number_23 : decode cX12_number 23 = .ok (.istore_n 3, 1) := by decide +kernel
theorem dX12_number_24 : decode cX12_number 24 = .ok (.aload_n 0, 1) := by decide +kernel
theorem dX12_number_25 : decode cX12_number 25 = .ok (.dup, 1) := by decide +kernel
theorem dX12_number_26 : decode cX12_number 26 = .ok (.getfield 130, 3) := by decide +kernel
theorem dX12_number_29 : decode cX12_number 29 = .ok (.iconst 1, 1) := by decide +kernel
theorem dX12_number_30 : decode cX12_number 30 = .ok (.iadd, 1) := by decide +kernel
theorem dX12_number_31 : decode cX12_number 31 = .ok (.putfield 130, 3) := by decide +kernel
theorem dX12_number_34 : decode cX12_number 34 = .ok (.aload_n 0, 1) := by decide +kernel
theorem dX12_number_35 : decode cX12_number 35 = .ok (.invokevirtual 133, 3) := by decide +kernel
theorem dX12_number_38 : decode cX12_number 38 = .ok (.invokestatic 152, 3) := by decide +kernel
theorem dX12_number_41 : decode cX12_number 41 = .ok (.ifCond .eq 26, 3) := by decide +kernel
theorem dX12_number_44 : decode cX12_number 44 = .ok (.bipush 10, 2) := by decide +kernel
theorem dX12_number_46 : decode cX12_number 46 = .ok (.iload_n 3, 1) := by decide +kernel
theorem dX12_number_47 : decode cX12_number 47 = .ok (.imul, 1) := by decide +kernel
theorem dX12_number_48 : decode cX12_number 48 = .ok (.aload_n 0, 1) := by decide +kernel
theorem dX12_number_49 : decode cX12_number 49 = .ok (.invokevirtual 133, 3) := by decide +kernel
theorem dX12_number_52 : decode cX12_number 52 = .ok (.iadd, 1) := by decide +kernel
theorem dX12_number_53 : decode cX12_number 53 = .ok (.bipush 48, 2) := by decide +kernel
theorem dX12_number_55 : decode cX12_number 55 = .ok (.isub, 1) := by decide +kernel
theorem dX12_number_56 : decode cX12_number 56 = .ok (.istore_n 3, 1) := by decide +kernel
theorem dX12_number_57 : decode cX12_number 57 = .ok (.aload_n 0, 1) := by decide +kernel
theorem dX12_number_58 : decode cX12_number 58 = .ok (.dup, 1) := by decide +kernel
theorem dX12_number_59 : decode cX12_number 59 = .ok (.getfield 130, 3) := by decide +kernel
theorem dX12_number_62 : decode cX12_number 62 = .ok (.iconst 1, 1) := by decide +kernel
theorem dX12_number_63 : decode cX12_number 63 = .ok (.iadd, 1) := by decide +kernel
theorem dX12_number_64 : decode cX12_number 64 = .ok (.putfield 130, 3) := by decide +kernel
theorem dX12_number_67 : decode cX12_number 67 = .ok (.aload_n 0, 1) := by decide +kernel
theorem dX12_number_68 : decode cX12_number 68 = .ok (.invokevirtual 133, 3) := by decide +kernel
theorem dX12_number_71 : decode cX12_number 71 = .ok (.invokestatic 152, 3) := by decide +kernel
theorem dX12_number_74 : decode cX12_number 74 = .ok (.ifCond .eq 10, 3) := by decide +kernel
theorem dX12_number_77 : decode cX12_number 77 = .ok (.aload_n 0, 1) := by decide +kernel
theorem dX12_number_78 : decode cX12_number 78 = .ok (.invokevirtual 146, 3) := by decide +kernel
theorem dX12_number_81 : decode cX12_number 81 = .ok (.goto 26, 3) := by decide +kernel
theorem dX12_number_84 : decode cX12_number 84 = .ok (.iload_n 3, 1) := by decide +kernel
theorem dX12_number_85 : decode cX12_number 85 = .ok (.iload_n 1, 1) := by decide +kernel
theorem dX12_number_86 : decode cX12_number 86 = .ok (.iload_n 2, 1) := by decide +kernel
theorem dX12_number_87 : decode cX12_number 87 = .ok (.invokestatic 235, 3) := by decide +kernel
theorem dX12_number_90 : decode cX12_number 90 = .ok (.ifCond .ne 17, 3) := by decide +kernel
theorem dX12_number_93 : decode cX12_number 93 = .ok (.aload_n 0, 1) := by decide +kernel
theorem dX12_number_94 : decode cX12_number 94 = .ok (.dup, 1) := by decide +kernel
theorem dX12_number_95 : decode cX12_number 95 = .ok (.getfield 130, 3) := by decide +kernel
theorem dX12_number_98 : decode cX12_number 98 = .ok (.iconst 1, 1) := by decide +kernel
theorem dX12_number_99 : decode cX12_number 99 = .ok (.isub, 1) := by decide +kernel
theorem dX12_number_100 : decode cX12_number 100 = .ok (.putfield 130, 3) := by decide +kernel
theorem dX12_number_103 : decode cX12_number 103 = .ok (.aload_n 0, 1) := by decide +kernel
theorem dX12_number_104 : decode cX12_number 104 = .ok (.invokevirtual 146, 3) := by decide +kernel
theorem dX12_number_107 : decode cX12_number 107 = .ok (.iload_n 3, 1) := by decide +kernel
theorem dX12_number_108 : decode cX12_number 108 = .ok (.ireturn, 1) := by decide +kernel
theorem dX12_itemOf_0 : decode cX12_itemOf 0 = .ok (.iload_n 0, 1) := by decide +kernel
theorem dX12_itemOf_1 : decode cX12_itemOf 1 = .ok (.tableswitch 107 112 115 #[53, 107, 65, 31], 31) := by decide +kernel
theorem dX12_itemOf_32 : decode cX12_itemOf 32 = .ok (.iload_n 1, 1) := by decide +kernel
theorem dX12_itemOf_33 : decode cX12_itemOf 33 = .ok (.bipush 104, 2) := by decide +kernel
theorem dX12_itemOf_35 : decode cX12_itemOf 35 = .ok (.if_icmp .ne 7, 3) := by decide +kernel
theorem dX12_itemOf_38 : decode cX12_itemOf 38 = .ok (.iconst 0, 1) := by decide +kernel
theorem dX12_itemOf_39 : decode cX12_itemOf 39 = .ok (.goto 14, 3) := by decide +kernel
theorem dX12_itemOf_42 : decode cX12_itemOf 42 = .ok (.iload_n 1, 1) := by decide +kernel
theorem dX12_itemOf_43 : decode cX12_itemOf 43 = .ok (.bipush 107, 2) := by decide +kernel
theorem dX12_itemOf_45 : decode cX12_itemOf 45 = .ok (.if_icmp .ne 7, 3) := by decide +kernel
theorem dX12_itemOf_48 : decode cX12_itemOf 48 = .ok (.iconst 1, 1) := by decide +kernel
theorem dX12_itemOf_49 : decode cX12_itemOf 49 = .ok (.goto 4, 3) := by decide +kernel
theorem dX12_itemOf_52 : decode cX12_itemOf 52 = .ok (.iconst (-1), 1) := by decide +kernel
theorem dX12_itemOf_53 : decode cX12_itemOf 53 = .ok (.ireturn, 1) := by decide +kernel
theorem dX12_itemOf_54 : decode cX12_itemOf 54 = .ok (.iload_n 1, 1) := by decide +kernel
theorem dX12_itemOf_55 : decode cX12_itemOf 55 = .ok (.bipush 99, 2) := by decide +kernel
theorem dX12_itemOf_57 : decode cX12_itemOf 57 = .ok (.if_icmp .ne 7, 3) := by decide +kernel
theorem dX12_itemOf_60 : decode cX12_itemOf 60 = .ok (.iconst 0, 1) := by decide +kernel
theorem dX12_itemOf_61 : decode cX12_itemOf 61 = .ok (.goto 4, 3) := by decide +kernel
theorem dX12_itemOf_64 : decode cX12_itemOf 64 = .ok (.iconst (-1), 1) := by decide +kernel
theorem dX12_itemOf_65 : decode cX12_itemOf 65 = .ok (.ireturn, 1) := by decide +kernel
theorem dX12_itemOf_66 : decode cX12_itemOf 66 = .ok (.iload_n 1, 1) := by decide +kernel
theorem dX12_itemOf_67 : decode cX12_itemOf 67 = .ok (.bipush 97, 2) := by decide +kernel
theorem dX12_itemOf_69 : decode cX12_itemOf 69 = .ok (.if_icmp .ne 7, 3) := by decide +kernel
theorem dX12_itemOf_72 : decode cX12_itemOf 72 = .ok (.iconst 0, 1) := by decide +kernel
theorem dX12_itemOf_73 : decode cX12_itemOf 73 = .ok (.goto 34, 3) := by decide +kernel
theorem dX12_itemOf_76 : decode cX12_itemOf 76 = .ok (.iload_n 1, 1) := by decide +kernel
theorem dX12_itemOf_77 : decode cX12_itemOf 77 = .ok (.bipush 98, 2) := by decide +kernel
theorem dX12_itemOf_79 : decode cX12_itemOf 79 = .ok (.if_icmp .ne 7, 3) := by decide +kernel
theorem dX12_itemOf_82 : decode cX12_itemOf 82 = .ok (.iconst 1, 1) := by decide +kernel
theorem dX12_itemOf_83 : decode cX12_itemOf 83 = .ok (.goto 24, 3) := by decide +kernel
theorem dX12_itemOf_86 : decode cX12_itemOf 86 = .ok (.iload_n 1, 1) := by decide +kernel
theorem dX12_itemOf_87 : decode cX12_itemOf 87 = .ok (.bipush 108, 2) := by decide +kernel
theorem dX12_itemOf_89 : decode cX12_itemOf 89 = .ok (.if_icmp .ne 7, 3) := by decide +kernel
theorem dX12_itemOf_92 : decode cX12_itemOf 92 = .ok (.iconst 2, 1) := by decide +kernel
theorem dX12_itemOf_93 : decode cX12_itemOf 93 = .ok (.goto 14, 3) := by decide +kernel
theorem dX12_itemOf_96 : decode cX12_itemOf 96 = .ok (.iload_n 1, 1) := by decide +kernel
theorem dX12_itemOf_97 : decode cX12_itemOf 97 = .ok (.bipush 100, 2) := by decide +kernel
theorem dX12_itemOf_99 : decode cX12_itemOf 99 = .ok (.if_icmp .ne 7, 3) := by decide +kernel
theorem dX12_itemOf_102 : decode cX12_itemOf 102 = .ok (.iconst 3, 1) := by decide +kernel
theorem dX12_itemOf_103 : decode cX12_itemOf 103 = .ok (.goto 4, 3) := by decide +kernel
theorem dX12_itemOf_106 : decode cX12_itemOf 106 = .ok (.iconst (-1), 1) := by decide +kernel
theorem dX12_itemOf_107 : decode cX12_itemOf 107 = .ok (.ireturn, 1) := by decide +kernel
theorem dX12_itemOf_108 : decode cX12_itemOf 108 = .ok (.iload_n 1, 1) := by decide +kernel
theorem dX12_itemOf_109 : decode cX12_itemOf 109 = .ok (.bipush 115, 2) := by decide +kernel
theorem dX12_itemOf_111 : decode cX12_itemOf 111 = .ok (.if_icmp .ne 7, 3) := by decide +kernel
theorem dX12_itemOf_114 : decode cX12_itemOf 114 = .ok (.iconst 0, 1) := by decide +kernel
theorem dX12_itemOf_115 : decode cX12_itemOf 115 = .ok (.goto 4, 3) := by decide +kernel
theorem dX12_itemOf_118 : decode cX12_itemOf 118 = .ok (.iconst (-1), 1) := by decide +kernel
theorem dX12_itemOf_119 : decode cX12_itemOf 119 = .ok (.ireturn, 1) := by decide +kernel
theorem dX12_lowest_0 : decode cX12_lowest 0 = .ok (.iload_n 0, 1) := by decide +kernel
theorem dX12_lowest_1 : decode cX12_lowest 1 = .ok (.bipush 115, 2) := by decide +kernel
theorem dX12_lowest_3 : decode cX12_lowest 3 = .ok (.if_icmp .ne 7, 3) := by decide +kernel
theorem dX12_lowest_6 : decode cX12_lowest 6 = .ok (.iload_n 1, 1) := by decide +kernel
theorem dX12_lowest_7 : decode cX12_lowest 7 = .ok (.ifCond .eq 14, 3) := by decide +kernel
theorem dX12_lowest_10 : decode cX12_lowest 10 = .ok (.iload_n 0, 1) := by decide +kernel
theorem dX12_lowest_11 : decode cX12_lowest 11 = .ok (.bipush 114, 2) := by decide +kernel
theorem dX12_lowest_13 : decode cX12_lowest 13 = .ok (.if_icmp .ne 12, 3) := by decide +kernel
theorem dX12_lowest_16 : decode cX12_lowest 16 = .ok (.iload_n 1, 1) := by decide +kernel
theorem dX12_lowest_17 : decode cX12_lowest 17 = .ok (.iconst 2, 1) := by decide +kernel
theorem dX12_lowest_18 : decode cX12_lowest 18 = .ok (.if_icmp .ne 7, 3) := by decide +kernel
theorem dX12_lowest_21 : decode cX12_lowest 21 = .ok (.iconst 1, 1) := by decide +kernel
theorem dX12_lowest_22 : decode cX12_lowest 22 = .ok (.goto 4, 3) := by decide +kernel
theorem dX12_lowest_25 : decode cX12_lowest 25 = .ok (.iconst 0, 1) := by decide +kernel
theorem dX12_lowest_26 : decode cX12_lowest 26 = .ok (.ireturn, 1) := by decide +kernel
theorem dX12_highest_0 : decode cX12_highest 0 = .ok (.iload_n 0, 1) := by decide +kernel
theorem dX12_highest_1 : decode cX12_highest 1 = .ok (.tableswitch 59 112 115 #[43, 59, 46, 31], 31) := by decide +kernel
theorem dX12_highest_32 : decode cX12_highest 32 = .ok (.iload_n 1, 1) := by decide +kernel
theorem dX12_highest_33 : decode cX12_highest 33 = .ok (.ifCond .ne 8, 3) := by decide +kernel
theorem dX12_highest_36 : decode cX12_highest 36 = .ok (.bipush 24, 2) := by decide +kernel
theorem dX12_highest_38 : decode cX12_highest 38 = .ok (.goto 5, 3) := by decide +kernel
theorem dX12_highest_41 : decode cX12_highest 41 = .ok (.bipush 99, 2) := by decide +kernel
theorem dX12_highest_43 : decode cX12_highest 43 = .ok (.ireturn, 1) := by decide +kernel
theorem dX12_highest_44 : decode cX12_highest 44 = .ok (.bipush 9, 2) := by decide +kernel
theorem dX12_highest_46 : decode cX12_highest 46 = .ok (.ireturn, 1) := by decide +kernel
theorem dX12_highest_47 : decode cX12_highest 47 = .ok (.iload_n 1, 1) := by decide +kernel
theorem dX12_highest_48 : decode cX12_highest 48 = .ok (.iconst 2, 1) := by decide +kernel
theorem dX12_highest_49 : decode cX12_highest 49 = .ok (.if_icmp .ge 8, 3) := by decide +kernel
theorem dX12_highest_52 : decode cX12_highest 52 = .ok (.bipush 6, 2) := by decide +kernel
theorem dX12_highest_54 : decode cX12_highest 54 = .ok (.goto 5, 3) := by decide +kernel
theorem dX12_highest_57 : decode cX12_highest 57 = .ok (.bipush 9, 2) := by decide +kernel
theorem dX12_highest_59 : decode cX12_highest 59 = .ok (.ireturn, 1) := by decide +kernel
theorem dX12_highest_60 : decode cX12_highest 60 = .ok (.bipush 6, 2) := by decide +kernel
theorem dX12_highest_62 : decode cX12_highest 62 = .ok (.ireturn, 1) := by decide +kernel
theorem dX12_usual_0 : decode cX12_usual 0 = .ok (.iload_n 0, 1) := by decide +kernel
theorem dX12_usual_1 : decode cX12_usual 1 = .ok (.tableswitch 74 112 115 #[43, 74, 45, 31], 31) := by decide +kernel
theorem dX12_usual_32 : decode cX12_usual 32 = .ok (.iload_n 1, 1) := by decide +kernel
theorem dX12_usual_33 : decode cX12_usual 33 = .ok (.ifCond .ne 8, 3) := by decide +kernel
theorem dX12_usual_36 : decode cX12_usual 36 = .ok (.bipush 12, 2) := by decide +kernel
theorem dX12_usual_38 : decode cX12_usual 38 = .ok (.goto 5, 3) := by decide +kernel
theorem dX12_usual_41 : decode cX12_usual 41 = .ok (.bipush 20, 2) := by decide +kernel
theorem dX12_usual_43 : decode cX12_usual 43 = .ok (.ireturn, 1) := by decide +kernel
theorem dX12_usual_44 : decode cX12_usual 44 = .ok (.iconst 3, 1) := by decide +kernel
theorem dX12_usual_45 : decode cX12_usual 45 = .ok (.ireturn, 1) := by decide +kernel
theorem dX12_usual_46 : decode cX12_usual 46 = .ok (.iload_n 1, 1) := by decide +kernel
theorem dX12_usual_47 : decode cX12_usual 47 = .ok (.iconst 1, 1) := by decide +kernel
theorem dX12_usual_48 : decode cX12_usual 48 = .ok (.if_icmp .ne 7, 3) := by decide +kernel
theorem dX12_usual_51 : decode cX12_usual 51 = .ok (.iconst 1, 1) := by decide +kernel
theorem dX12_usual_52 : decode cX12_usual 52 = .ok (.goto 22, 3) := by decide +kernel
theorem dX12_usual_55 : decode cX12_usual 55 = .ok (.iload_n 1, 1) := by decide +kernel
theorem dX12_usual_56 : decode cX12_usual 56 = .ok (.iconst 2, 1) := by decide +kernel
theorem dX12_usual_57 : decode cX12_usual 57 = .ok (.if_icmp .ne 7, 3) := by decide +kernel
theorem dX12_usual_60 : decode cX12_usual 60 = .ok (.iconst 4, 1) := by decide +kernel
theorem dX12_usual_61 : decode cX12_usual 61 = .ok (.goto 13, 3) := by decide +kernel
theorem dX12_usual_64 : decode cX12_usual 64 = .ok (.iload_n 1, 1) := by decide +kernel
theorem dX12_usual_65 : decode cX12_usual 65 = .ok (.iconst 3, 1) := by decide +kernel
theorem dX12_usual_66 : decode cX12_usual 66 = .ok (.if_icmp .ne 7, 3) := by decide +kernel
theorem dX12_usual_69 : decode cX12_usual 69 = .ok (.iconst 2, 1) := by decide +kernel
theorem dX12_usual_70 : decode cX12_usual 70 = .ok (.goto 4, 3) := by decide +kernel
theorem dX12_usual_73 : decode cX12_usual 73 = .ok (.iconst 0, 1) := by decide +kernel
theorem dX12_usual_74 : decode cX12_usual 74 = .ok (.ireturn, 1) := by decide +kernel
theorem dX12_usual_75 : decode cX12_usual 75 = .ok (.iconst 0, 1) := by decide +kernel
theorem dX12_usual_76 : decode cX12_usual 76 = .ok (.ireturn, 1) := by decide +kernel
theorem dX12_items_0 : decode cX12_items 0 = .ok (.iconst 0, 1) := by decide +kernel
theorem dX12_items_1 : decode cX12_items 1 = .ok (.istore 5, 2) := by decide +kernel
theorem dX12_items_3 : decode cX12_items 3 = .ok (.iload 5, 2) := by decide +kernel
theorem dX12_items_5 : decode cX12_items 5 = .ok (.iload 4, 2) := by decide +kernel
theorem dX12_items_7 : decode cX12_items 7 = .ok (.if_icmp .ge 21, 3) := by decide +kernel
theorem dX12_items_10 : decode cX12_items 10 = .ok (.aload_n 2, 1) := by decide +kernel
theorem dX12_items_11 : decode cX12_items 11 = .ok (.iload_n 3, 1) := by decide +kernel
theorem dX12_items_12 : decode cX12_items 12 = .ok (.iload 5, 2) := by decide +kernel
theorem dX12_items_14 : decode cX12_items 14 = .ok (.iadd, 1) := by decide +kernel
theorem dX12_items_15 : decode cX12_items 15 = .ok (.iload_n 1, 1) := by decide +kernel
theorem dX12_items_16 : decode cX12_items 16 = .ok (.iload 5, 2) := by decide +kernel
theorem dX12_items_18 : decode cX12_items 18 = .ok (.invokestatic 239, 3) := by decide +kernel
theorem dX12_items_21 : decode cX12_items 21 = .ok (.iastore, 1) := by decide +kernel
theorem dX12_items_22 : decode cX12_items 22 = .ok (.iinc 5 1, 3) := by decide +kernel
theorem dX12_items_25 : decode cX12_items 25 = .ok (.goto (-22), 3) := by decide +kernel
theorem dX12_items_28 : decode cX12_items 28 = .ok (.iconst 0, 1) := by decide +kernel
theorem dX12_items_29 : decode cX12_items 29 = .ok (.istore 5, 2) := by decide +kernel
theorem dX12_items_31 : decode cX12_items 31 = .ok (.iload_n 1, 1) := by decide +kernel
theorem dX12_items_32 : decode cX12_items 32 = .ok (.aload_n 0, 1) := by decide +kernel
theorem dX12_items_33 : decode cX12_items 33 = .ok (.invokevirtual 149, 3) := by decide +kernel
theorem dX12_items_36 : decode cX12_items 36 = .ok (.invokestatic 243, 3) := by decide +kernel
theorem dX12_items_39 : decode cX12_items 39 = .ok (.istore 6, 2) := by decide +kernel
theorem dX12_items_41 : decode cX12_items 41 = .ok (.aload_n 0, 1) := by decide +kernel
theorem dX12_items_42 : decode cX12_items 42 = .ok (.getfield 137, 3) := by decide +kernel
theorem dX12_items_45 : decode cX12_items 45 = .ok (.iconst (-1), 1) := by decide +kernel
theorem dX12_items_46 : decode cX12_items 46 = .ok (.if_icmp .ne 85, 3) := by decide +kernel
theorem dX12_items_49 : decode cX12_items 49 = .ok (.iload 6, 2) := by decide +kernel
theorem dX12_items_51 : decode cX12_items 51 = .ok (.iconst (-1), 1) := by decide +kernel
theorem dX12_items_52 : decode cX12_items 52 = .ok (.if_icmp .eq 79, 3) := by decide +kernel
theorem dX12_items_55 : decode cX12_items 55 = .ok (.iload 5, 2) := by decide +kernel
theorem dX12_items_57 : decode cX12_items 57 = .ok (.iload 6, 2) := by decide +kernel
theorem dX12_items_59 : decode cX12_items 59 = .ok (.invokestatic 246, 3) := by decide +kernel
theorem dX12_items_62 : decode cX12_items 62 = .ok (.ifCond .ne 69, 3) := by decide +kernel
theorem dX12_items_65 : decode cX12_items 65 = .ok (.iload 5, 2) := by decide +kernel
theorem dX12_items_67 : decode cX12_items 67 = .ok (.iconst 1, 1) := by decide +kernel
theorem dX12_items_68 : decode cX12_items 68 = .ok (.iload 6, 2) := by decide +kernel
theorem dX12_items_70 : decode cX12_items 70 = .ok (.ishl, 1) := by decide +kernel
theorem dX12_items_71 : decode cX12_items 71 = .ok (.ior, 1) := by decide +kernel
theorem dX12_items_72 : decode cX12_items 72 = .ok (.istore 5, 2) := by decide +kernel
theorem dX12_items_74 : decode cX12_items 74 = .ok (.aload_n 0, 1) := by decide +kernel
theorem dX12_items_75 : decode cX12_items 75 = .ok (.dup, 1) := by decide +kernel
theorem dX12_items_76 : decode cX12_items 76 = .ok (.getfield 130, 3) := by decide +kernel
theorem dX12_items_79 : decode cX12_items 79 = .ok (.iconst 1, 1) := by decide +kernel
theorem dX12_items_80 : decode cX12_items 80 = .ok (.iadd, 1) := by decide +kernel
theorem dX12_items_81 : decode cX12_items 81 = .ok (.putfield 130, 3) := by decide +kernel
theorem dX12_items_84 : decode cX12_items 84 = .ok (.aload_n 2, 1) := by decide +kernel
theorem dX12_items_85 : decode cX12_items 85 = .ok (.iload_n 3, 1) := by decide +kernel
theorem dX12_items_86 : decode cX12_items 86 = .ok (.iload 6, 2) := by decide +kernel
theorem dX12_items_88 : decode cX12_items 88 = .ok (.iadd, 1) := by decide +kernel
theorem dX12_items_89 : decode cX12_items 89 = .ok (.aload_n 0, 1) := by decide +kernel
theorem dX12_items_90 : decode cX12_items 90 = .ok (.iload_n 1, 1) := by decide +kernel
theorem dX12_items_91 : decode cX12_items 91 = .ok (.iload 6, 2) := by decide +kernel
theorem dX12_items_93 : decode cX12_items 93 = .ok (.invokestatic 250, 3) := by decide +kernel
theorem dX12_items_96 : decode cX12_items 96 = .ok (.iload_n 1, 1) := by decide +kernel
theorem dX12_items_97 : decode cX12_items 97 = .ok (.iload 6, 2) := by decide +kernel
theorem dX12_items_99 : decode cX12_items 99 = .ok (.invokestatic 253, 3) := by decide +kernel
theorem dX12_items_102 : decode cX12_items 102 = .ok (.invokevirtual 256, 3) := by decide +kernel
theorem dX12_items_105 : decode cX12_items 105 = .ok (.iastore, 1) := by decide +kernel
theorem dX12_items_106 : decode cX12_items 106 = .ok (.aload_n 0, 1) := by decide +kernel
theorem dX12_items_107 : decode cX12_items 107 = .ok (.getfield 137, 3) := by decide +kernel
theorem dX12_items_110 : decode cX12_items 110 = .ok (.iconst (-1), 1) := by decide +kernel
theorem dX12_items_111 : decode cX12_items 111 = .ok (.if_icmp .ne 14, 3) := by decide +kernel
theorem dX12_items_114 : decode cX12_items 114 = .ok (.iload_n 1, 1) := by decide +kernel
theorem dX12_items_115 : decode cX12_items 115 = .ok (.aload_n 0, 1) := by decide +kernel
theorem dX12_items_116 : decode cX12_items 116 = .ok (.invokevirtual 149, 3) := by decide +kernel
theorem dX12_items_119 : decode cX12_items 119 = .ok (.invokestatic 243, 3) := by decide +kernel
theorem dX12_items_122 : decode cX12_items 122 = .ok (.goto 4, 3) := by decide +kernel
theorem dX12_items_125 : decode cX12_items 125 = .ok (.iconst (-1), 1) := by decide +kernel
theorem dX12_items_126 : decode cX12_items 126 = .ok (.istore 6, 2) := by decide +kernel
theorem dX12_items_128 : decode cX12_items 128 = .ok (.goto (-87), 3) := by decide +kernel
theorem dX12_items_131 : decode cX12_items 131 = .ok (.return_, 1) := by decide +kernel
theorem dX12_isWhole_0 : decode cX12_isWhole 0 = .ok (.aload_n 0, 1) := by decide +kernel
theorem dX12_isWhole_1 : decode cX12_isWhole 1 = .ok (.getfield 259, 3) := by decide +kernel
theorem dX12_isWhole_4 : decode cX12_isWhole 4 = .ok (.iconst 1, 1) := by decide +kernel
theorem dX12_isWhole_5 : decode cX12_isWhole 5 = .ok (.if_icmp .le 21, 3) := by decide +kernel
theorem dX12_isWhole_8 : decode cX12_isWhole 8 = .ok (.aload_n 0, 1) := by decide +kernel
theorem dX12_isWhole_9 : decode cX12_isWhole 9 = .ok (.getfield 262, 3) := by decide +kernel
theorem dX12_isWhole_12 : decode cX12_isWhole 12 = .ok (.ifCond .le 14, 3) := by decide +kernel
theorem dX12_isWhole_15 : decode cX12_isWhole 15 = .ok (.aload_n 0, 1) := by decide +kernel
theorem dX12_isWhole_16 : decode cX12_isWhole 16 = .ok (.getfield 265, 3) := by decide +kernel
theorem dX12_isWhole_19 : decode cX12_isWhole 19 = .ok (.ifCond .le 7, 3) := by decide +kernel
theorem dX12_isWhole_22 : decode cX12_isWhole 22 = .ok (.iconst 1, 1) := by decide +kernel
theorem dX12_isWhole_23 : decode cX12_isWhole 23 = .ok (.goto 4, 3) := by decide +kernel
theorem dX12_isWhole_26 : decode cX12_isWhole 26 = .ok (.iconst 0, 1) := by decide +kernel
theorem dX12_isWhole_27 : decode cX12_isWhole 27 = .ok (.istore_n 1, 1) := by decide +kernel
theorem dX12_isWhole_28 : decode cX12_isWhole 28 = .ok (.iconst 0, 1) := by decide +kernel
theorem dX12_isWhole_29 : decode cX12_isWhole 29 = .ok (.istore_n 2, 1) := by decide +kernel
theorem dX12_isWhole_30 : decode cX12_isWhole 30 = .ok (.iload_n 2, 1) := by decide +kernel
theorem dX12_isWhole_31 : decode cX12_isWhole 31 = .ok (.aload_n 0, 1) := by decide +kernel
theorem dX12_isWhole_32 : decode cX12_isWhole 32 = .ok (.getfield 262, 3) := by decide +kernel
theorem dX12_isWhole_35 : decode cX12_isWhole 35 = .ok (.if_icmp .ge 65, 3) := by decide +kernel
theorem dX12_isWhole_38 : decode cX12_isWhole 38 = .ok (.aload_n 0, 1) := by decide +kernel
theorem dX12_isWhole_39 : decode cX12_isWhole 39 = .ok (.getfield 46, 3) := by decide +kernel
theorem dX12_isWhole_42 : decode cX12_isWhole 42 = .ok (.iconst 4, 1) := by decide +kernel
theorem dX12_isWhole_43 : decode cX12_isWhole 43 = .ok (.iload_n 2, 1) := by decide +kernel
theorem dX12_isWhole_44 : decode cX12_isWhole 44 = .ok (.imul, 1) := by decide +kernel
theorem dX12_isWhole_45 : decode cX12_isWhole 45 = .ok (.iconst 0, 1) := by decide +kernel
theorem dX12_isWhole_46 : decode cX12_isWhole 46 = .ok (.iadd, 1) := by decide +kernel
theorem dX12_isWhole_47 : decode cX12_isWhole 47 = .ok (.iaload, 1) := by decide +kernel
theorem dX12_isWhole_48 : decode cX12_isWhole 48 = .ok (.istore_n 3, 1) := by decide +kernel
theorem dX12_isWhole_49 : decode cX12_isWhole 49 = .ok (.aload_n 0, 1) := by decide +kernel
theorem dX12_isWhole_50 : decode cX12_isWhole 50 = .ok (.getfield 46, 3) := by decide +kernel
theorem dX12_isWhole_53 : decode cX12_isWhole 53 = .ok (.iconst 4, 1) := by decide +kernel
theorem dX12_isWhole_54 : decode cX12_isWhole 54 = .ok (.iload_n 2, 1) := by decide +kernel
theorem dX12_isWhole_55 : decode cX12_isWhole 55 = .ok (.imul, 1) := by decide +kernel
theorem dX12_isWhole_56 : decode cX12_isWhole 56 = .ok (.iconst 1, 1) := by decide +kernel
theorem dX12_isWhole_57 : decode cX12_isWhole 57 = .ok (.iadd, 1) := by decide +kernel
theorem dX12_isWhole_58 : decode cX12_isWhole 58 = .ok (.iaload, 1) := by decide +kernel
theorem dX12_isWhole_59 : decode cX12_isWhole 59 = .ok (.istore 4, 2) := by decide +kernel
theorem dX12_isWhole_61 : decode cX12_isWhole 61 = .ok (.iload_n 1, 1) := by decide +kernel
theorem dX12_isWhole_62 : decode cX12_isWhole 62 = .ok (.ifCond .eq 30, 3) := by decide +kernel
theorem dX12_isWhole_65 : decode cX12_isWhole 65 = .ok (.iload_n 3, 1) := by decide +kernel
theorem dX12_isWhole_66 : decode cX12_isWhole 66 = .ok (.aload_n 0, 1) := by decide +kernel
theorem dX12_isWhole_67 : decode cX12_isWhole 67 = .ok (.getfield 259, 3) := by decide +kernel
theorem dX12_isWhole_70 : decode cX12_isWhole 70 = .ok (.if_icmp .ge 22, 3) := by decide +kernel
theorem dX12_isWhole_73 : decode cX12_isWhole 73 = .ok (.iload 4, 2) := by decide +kernel
theorem dX12_isWhole_75 : decode cX12_isWhole 75 = .ok (.aload_n 0, 1) := by decide +kernel
theorem dX12_isWhole_76 : decode cX12_isWhole 76 = .ok (.getfield 259, 3) := by decide +kernel
theorem dX12_isWhole_79 : decode cX12_isWhole 79 = .ok (.if_icmp .ge 13, 3) := by decide +kernel
theorem dX12_isWhole_82 : decode cX12_isWhole 82 = .ok (.iload_n 3, 1) := by decide +kernel
theorem dX12_isWhole_83 : decode cX12_isWhole 83 = .ok (.iload 4, 2) := by decide +kernel
theorem dX12_isWhole_85 : decode cX12_isWhole 85 = .ok (.if_icmp .eq 7, 3) := by decide +kernel
theorem dX12_isWhole_88 : decode cX12_isWhole 88 = .ok (.iconst 1, 1) := by decide +kernel
theorem dX12_isWhole_89 : decode cX12_isWhole 89 = .ok (.goto 4, 3) := by decide +kernel
theorem dX12_isWhole_92 : decode cX12_isWhole 92 = .ok (.iconst 0, 1) := by decide +kernel
theorem dX12_isWhole_93 : decode cX12_isWhole 93 = .ok (.istore_n 1, 1) := by decide +kernel
theorem dX12_isWhole_94 : decode cX12_isWhole 94 = .ok (.iinc 2 1, 3) := by decide +kernel
theorem dX12_isWhole_97 : decode cX12_isWhole 97 = .ok (.goto (-67), 3) := by decide +kernel
theorem dX12_isWhole_100 : decode cX12_isWhole 100 = .ok (.iconst 0, 1) := by decide +kernel
theorem dX12_isWhole_101 : decode cX12_isWhole 101 = .ok (.istore_n 2, 1) := by decide +kernel
theorem dX12_isWhole_102 : decode cX12_isWhole 102 = .ok (.iload_n 2, 1) := by decide +kernel
theorem dX12_isWhole_103 : decode cX12_isWhole 103 = .ok (.aload_n 0, 1) := by decide +kernel
theorem dX12_isWhole_104 : decode cX12_isWhole 104 = .ok (.getfield 265, 3) := by decide +kernel
theorem dX12_isWhole_107 : decode cX12_isWhole 107 = .ok (.if_icmp .ge 32, 3) := by decide +kernel
theorem dX12_isWhole_110 : decode cX12_isWhole 110 = .ok (.iload_n 1, 1) := by decide +kernel
theorem dX12_isWhole_111 : decode cX12_isWhole 111 = .ok (.ifCond .eq 20, 3) := by decide +kernel
theorem dX12_isWhole_114 : decode cX12_isWhole 114 = .ok (.aload_n 0, 1) := by decide +kernel
theorem dX12_isWhole_115 : decode cX12_isWhole 115 = .ok (.getfield 49, 3) := by decide +kernel
theorem dX12_isWhole_118 : decode cX12_isWhole 118 = .ok (.iload_n 2, 1) := by decide +kernel
theorem dX12_isWhole_119 : decode cX12_isWhole 119 = .ok (.iaload, 1) := by decide +kernel
theorem dX12_isWhole_120 : decode cX12_isWhole 120 = .ok (.aload_n 0, 1) := by decide +kernel
theorem dX12_isWhole_121 : decode cX12_isWhole 121 = .ok (.getfield 259, 3) := by decide +kernel
theorem dX12_isWhole_124 : decode cX12_isWhole 124 = .ok (.if_icmp .ge 7, 3) := by decide +kernel
theorem dX12_isWhole_127 : decode cX12_isWhole 127 = .ok (.iconst 1, 1) := by decide +kernel
theorem dX12_isWhole_128 : decode cX12_isWhole 128 = .ok (.goto 4, 3) := by decide +kernel
theorem dX12_isWhole_131 : decode cX12_isWhole 131 = .ok (.iconst 0, 1) := by decide +kernel
theorem dX12_isWhole_132 : decode cX12_isWhole 132 = .ok (.istore_n 1, 1) := by decide +kernel
theorem dX12_isWhole_133 : decode cX12_isWhole 133 = .ok (.iinc 2 1, 3) := by decide +kernel
theorem dX12_isWhole_136 : decode cX12_isWhole 136 = .ok (.goto (-34), 3) := by decide +kernel
theorem dX12_isWhole_139 : decode cX12_isWhole 139 = .ok (.iload_n 1, 1) := by decide +kernel
theorem dX12_isWhole_140 : decode cX12_isWhole 140 = .ok (.ireturn, 1) := by decide +kernel
theorem dX12_readCounty_0 : decode cX12_readCounty 0 = .ok (.aload_n 0, 1) := by decide +kernel
theorem dX12_readCounty_1 : decode cX12_readCounty 1 = .ok (.iconst 0, 1) := by decide +kernel
theorem dX12_readCounty_2 : decode cX12_readCounty 2 = .ok (.putfield 130, 3) := by decide +kernel
theorem dX12_readCounty_5 : decode cX12_readCounty 5 = .ok (.aload_n 0, 1) := by decide +kernel
theorem dX12_readCounty_6 : decode cX12_readCounty 6 = .ok (.iconst (-1), 1) := by decide +kernel
theorem dX12_readCounty_7 : decode cX12_readCounty 7 = .ok (.putfield 137, 3) := by decide +kernel
theorem dX12_readCounty_10 : decode cX12_readCounty 10 = .ok (.aload_n 0, 1) := by decide +kernel
theorem dX12_readCounty_11 : decode cX12_readCounty 11 = .ok (.iconst 0, 1) := by decide +kernel
theorem dX12_readCounty_12 : decode cX12_readCounty 12 = .ok (.putfield 259, 3) := by decide +kernel
theorem dX12_readCounty_15 : decode cX12_readCounty 15 = .ok (.aload_n 0, 1) := by decide +kernel
theorem dX12_readCounty_16 : decode cX12_readCounty 16 = .ok (.iconst 0, 1) := by decide +kernel
theorem dX12_readCounty_17 : decode cX12_readCounty 17 = .ok (.putfield 262, 3) := by decide +kernel
theorem dX12_readCounty_20 : decode cX12_readCounty 20 = .ok (.aload_n 0, 1) := by decide +kernel
theorem dX12_readCounty_21 : decode cX12_readCounty 21 = .ok (.iconst 0, 1) := by decide +kernel
theorem dX12_readCounty_22 : decode cX12_readCounty 22 = .ok (.putfield 265, 3) := by decide +kernel
theorem dX12_readCounty_25 : decode cX12_readCounty 25 = .ok (.iconst 0, 1) := by decide +kernel
theorem dX12_readCounty_26 : decode cX12_readCounty 26 = .ok (.istore_n 1, 1) := by decide +kernel
theorem dX12_readCounty_27 : decode cX12_readCounty 27 = .ok (.iconst 0, 1) := by decide +kernel
theorem dX12_readCounty_28 : decode cX12_readCounty 28 = .ok (.istore_n 2, 1) := by decide +kernel
theorem dX12_readCounty_29 : decode cX12_readCounty 29 = .ok (.iload_n 2, 1) := by decide +kernel
theorem dX12_readCounty_30 : decode cX12_readCounty 30 = .ok (.iconst 2, 1) := by decide +kernel
theorem dX12_readCounty_31 : decode cX12_readCounty 31 = .ok (.if_icmp .ge 21, 3) := by decide +kernel
theorem dX12_readCounty_34 : decode cX12_readCounty 34 = .ok (.aload_n 0, 1) := by decide +kernel
theorem dX12_readCounty_35 : decode cX12_readCounty 35 = .ok (.getfield 40, 3) := by decide +kernel
theorem dX12_readCounty_38 : decode cX12_readCounty 38 = .ok (.iload_n 2, 1) := by decide +kernel
theorem dX12_readCounty_39 : decode cX12_readCounty 39 = .ok (.bipush 115, 2) := by decide +kernel
theorem dX12_readCounty_41 : decode cX12_readCounty 41 = .ok (.iload_n 2, 1) := by decide +kernel
theorem dX12_readCounty_42 : decode cX12_readCounty 42 = .ok (.invokestatic 239, 3) := by decide +kernel
theorem dX12_readCounty_45 : decode cX12_readCounty 45 = .ok (.iastore, 1) := by decide +kernel
theorem dX12_readCounty_46 : decode cX12_readCounty 46 = .ok (.iinc 2 1, 3) := by decide +kernel
theorem dX12_readCounty_49 : decode cX12_readCounty 49 = .ok (.goto (-20), 3) := by decide +kernel
theorem dX12_readCounty_52 : decode cX12_readCounty 52 = .ok (.iconst 1, 1) := by decide +kernel
theorem dX12_readCounty_53 : decode cX12_readCounty 53 = .ok (.istore_n 2, 1) := by decide +kernel
theorem dX12_readCounty_54 : decode cX12_readCounty 54 = .ok (.iload_n 2, 1) := by decide +kernel
theorem dX12_readCounty_55 : decode cX12_readCounty 55 = .ok (.ifCond .eq 257, 3) := by decide +kernel
theorem dX12_readCounty_58 : decode cX12_readCounty 58 = .ok (.aload_n 0, 1) := by decide +kernel
theorem dX12_readCounty_59 : decode cX12_readCounty 59 = .ok (.getfield 137, 3) := by decide +kernel
theorem dX12_readCounty_62 : decode cX12_readCounty 62 = .ok (.iconst (-1), 1) := by decide +kernel
theorem dX12_readCounty_63 : decode cX12_readCounty 63 = .ok (.if_icmp .ne 249, 3) := by decide +kernel
theorem dX12_readCounty_66 : decode cX12_readCounty 66 = .ok (.aload_n 0, 1) := by decide +kernel
theorem dX12_readCounty_67 : decode cX12_readCounty 67 = .ok (.invokevirtual 149, 3) := by decide +kernel
theorem dX12_readCounty_70 : decode cX12_readCounty 70 = .ok (.istore_n 3, 1) := by decide +kernel
theorem dX12_readCounty_71 : decode cX12_readCounty 71 = .ok (.iload_n 3, 1) := by decide +kernel
theorem dX12_readCounty_72 : decode cX12_readCounty 72 = .ok (.bipush 115, 2) := by decide +kernel
theorem dX12_readCounty_74 : decode cX12_readCounty 74 = .ok (.if_icmp .ne 33, 3) := by decide +kernel
theorem dX12_readCounty_77 : decode cX12_readCounty 77 = .ok (.iload_n 1, 1) := by decide +kernel
theorem dX12_readCounty_78 : decode cX12_readCounty 78 = .ok (.ifCond .ne 29, 3) := by decide +kernel
theorem dX12_readCounty_81 : decode cX12_readCounty 81 = .ok (.iconst 1, 1) := by decide +kernel
theorem dX12_readCounty_82 : decode cX12_readCounty 82 = .ok (.istore_n 1, 1) := by decide +kernel
theorem dX12_readCounty_83 : decode cX12_readCounty 83 = .ok (.aload_n 0, 1) := by decide +kernel
theorem dX12_readCounty_84 : decode cX12_readCounty 84 = .ok (.dup, 1) := by decide +kernel
theorem dX12_readCounty_85 : decode cX12_readCounty 85 = .ok (.getfield 130, 3) := by decide +kernel
theorem dX12_readCounty_88 : decode cX12_readCounty 88 = .ok (.iconst 1, 1) := by decide +kernel
theorem dX12_readCounty_89 : decode cX12_readCounty 89 = .ok (.iadd, 1) := by decide +kernel
theorem dX12_readCounty_90 : decode cX12_readCounty 90 = .ok (.putfield 130, 3) := by decide +kernel
theorem dX12_readCounty_93 : decode cX12_readCounty 93 = .ok (.aload_n 0, 1) := by decide +kernel
theorem dX12_readCounty_94 : decode cX12_readCounty 94 = .ok (.iload_n 3, 1) := by decide +kernel
theorem dX12_readCounty_95 : decode cX12_readCounty 95 = .ok (.aload_n 0, 1) := by decide +kernel
theorem dX12_readCounty_96 : decode cX12_readCounty 96 = .ok (.getfield 40, 3) := by decide +kernel
theorem dX12_readCounty_99 : decode cX12_readCounty 99 = .ok (.iconst 0, 1) := by decide +kernel
theorem dX12_readCounty_100 : decode cX12_readCounty 100 = .ok (.iconst 2, 1) := by decide +kernel
theorem dX12_readCounty_101 : decode cX12_readCounty 101 = .ok (.invokevirtual 268, 3) := by decide +kernel
theorem dX12_readCounty_104 : decode cX12_readCounty 104 = .ok (.goto 164, 3) := by decide +kernel
theorem dX12_readCounty_107 : decode cX12_readCounty 107 = .ok (.iload_n 3, 1) := by decide +kernel
theorem dX12_readCounty_108 : decode cX12_readCounty 108 = .ok (.bipush 112, 2) := by decide +kernel
theorem dX12_readCounty_110 : decode cX12_readCounty 110 = .ok (.if_icmp .ne 49, 3) := by decide +kernel
theorem dX12_readCounty_113 : decode cX12_readCounty 113 = .ok (.aload_n 0, 1) := by decide +kernel
theorem dX12_readCounty_114 : decode cX12_readCounty 114 = .ok (.getfield 259, 3) := by decide +kernel
theorem dX12_readCounty_117 : decode cX12_readCounty 117 = .ok (.bipush 7, 2) := by decide +kernel
theorem dX12_readCounty_119 : decode cX12_readCounty 119 = .ok (.if_icmp .ge 40, 3) := by decide +kernel
theorem dX12_readCounty_122 : decode cX12_readCounty 122 = .ok (.aload_n 0, 1) := by decide +kernel
theorem dX12_readCounty_123 : decode cX12_readCounty 123 = .ok (.dup, 1) := by decide +kernel
theorem dX12_readCounty_124 : decode cX12_readCounty 124 = .ok (.getfield 130, 3) := by decide +kernel
theorem dX12_readCounty_127 : decode cX12_readCounty 127 = .ok (.iconst 1, 1) := by decide +kernel
theorem dX12_readCounty_128 : decode cX12_readCounty 128 = .ok (.iadd, 1) := by decide +kernel
theorem dX12_readCounty_129 : decode cX12_readCounty 129 = .ok (.putfield 130, 3) := by decide +kernel
theorem dX12_readCounty_132 : decode cX12_readCounty 132 = .ok (.aload_n 0, 1) := by decide +kernel
theorem dX12_readCounty_133 : decode cX12_readCounty 133 = .ok (.iload_n 3, 1) := by decide +kernel
theorem dX12_readCounty_134 : decode cX12_readCounty 134 = .ok (.aload_n 0, 1) := by decide +kernel
theorem dX12_readCounty_135 : decode cX12_readCounty 135 = .ok (.getfield 43, 3) := by decide +kernel
theorem dX12_readCounty_138 : decode cX12_readCounty 138 = .ok (.aload_n 0, 1) := by decide +kernel
theorem dX12_readCounty_139 : decode cX12_readCounty 139 = .ok (.getfield 259, 3) := by decide +kernel
theorem dX12_readCounty_142 : decode cX12_readCounty 142 = .ok (.iconst 1, 1) := by decide +kernel
theorem dX12_readCounty_143 : decode cX12_readCounty 143 = .ok (.invokevirtual 268, 3) := by decide +kernel
theorem dX12_readCounty_146 : decode cX12_readCounty 146 = .ok (.aload_n 0, 1) := by decide +kernel
theorem dX12_readCounty_147 : decode cX12_readCounty 147 = .ok (.dup, 1) := by decide +kernel
theorem dX12_readCounty_148 : decode cX12_readCounty 148 = .ok (.getfield 259, 3) := by decide +kernel
theorem dX12_readCounty_151 : decode cX12_readCounty 151 = .ok (.iconst 1, 1) := by decide +kernel
theorem dX12_readCounty_152 : decode cX12_readCounty 152 = .ok (.iadd, 1) := by decide +kernel
theorem dX12_readCounty_153 : decode cX12_readCounty 153 = .ok (.putfield 259, 3) := by decide +kernel
theorem dX12_readCounty_156 : decode cX12_readCounty 156 = .ok (.goto 112, 3) := by decide +kernel
theorem dX12_readCounty_159 : decode cX12_readCounty 159 = .ok (.iload_n 3, 1) := by decide +kernel
theorem dX12_readCounty_160 : decode cX12_readCounty 160 = .ok (.bipush 114, 2) := by decide +kernel
theorem dX12_readCounty_162 : decode cX12_readCounty 162 = .ok (.if_icmp .ne 51, 3) := by decide +kernel
theorem dX12_readCounty_165 : decode cX12_readCounty 165 = .ok (.aload_n 0, 1) := by decide +kernel
theorem dX12_readCounty_166 : decode cX12_readCounty 166 = .ok (.getfield 262, 3) := by decide +kernel
theorem dX12_readCounty_169 : decode cX12_readCounty 169 = .ok (.bipush 12, 2) := by decide +kernel
theorem dX12_readCounty_171 : decode cX12_readCounty 171 = .ok (.if_icmp .ge 42, 3) := by decide +kernel
theorem dX12_readCounty_174 : decode cX12_readCounty 174 = .ok (.aload_n 0, 1) := by decide +kernel
theorem dX12_readCounty_175 : decode cX12_readCounty 175 = .ok (.dup, 1) := by decide +kernel
theorem dX12_readCounty_176 : decode cX12_readCounty 176 = .ok (.getfield 130, 3) := by decide +kernel
theorem dX12_readCounty_179 : decode cX12_readCounty 179 = .ok (.iconst 1, 1) := by decide +kernel
theorem dX12_readCounty_180 : decode cX12_readCounty 180 = .ok (.iadd, 1) := by decide +kernel
theorem dX12_readCounty_181 : decode cX12_readCounty 181 = .ok (.putfield 130, 3) := by decide +kernel
theorem dX12_readCounty_184 : decode cX12_readCounty 184 = .ok (.aload_n 0, 1) := by decide +kernel
theorem dX12_readCounty_185 : decode cX12_readCounty 185 = .ok (.iload_n 3, 1) := by decide +kernel
theorem dX12_readCounty_186 : decode cX12_readCounty 186 = .ok (.aload_n 0, 1) := by decide +kernel
theorem dX12_readCounty_187 : decode cX12_readCounty 187 = .ok (.getfield 46, 3) := by decide +kernel
theorem dX12_readCounty_190 : decode cX12_readCounty 190 = .ok (.iconst 4, 1) := by decide +kernel
theorem dX12_readCounty_191 : decode cX12_readCounty 191 = .ok (.aload_n 0, 1) := by decide +kernel
theorem dX12_readCounty_192 : decode cX12_readCounty 192 = .ok (.getfield 262, 3) := by decide +kernel
theorem dX12_readCounty_195 : decode cX12_readCounty 195 = .ok (.imul, 1) := by decide +kernel
theorem dX12_readCounty_196 : decode cX12_readCounty 196 = .ok (.iconst 4, 1) := by decide +kernel
theorem dX12_readCounty_197 : decode cX12_readCounty 197 = .ok (.invokevirtual 268, 3) := by decide +kernel
theorem dX12_readCounty_200 : decode cX12_readCounty 200 = .ok (.aload_n 0, 1) := by decide +kernel
theorem dX12_readCounty_201 : decode cX12_readCounty 201 = .ok (.dup, 1) := by decide +kernel
theorem dX12_readCounty_202 : decode cX12_readCounty 202 = .ok (.getfield 262, 3) := by decide +kernel
theorem dX12_readCounty_205 : decode cX12_readCounty 205 = .ok (.iconst 1, 1) := by decide +kernel
theorem dX12_readCounty_206 : decode cX12_readCounty 206 = .ok (.iadd, 1) := by decide +kernel
theorem dX12_readCounty_207 : decode cX12_readCounty 207 = .ok (.putfield 262, 3) := by decide +kernel
theorem dX12_readCounty_210 : decode cX12_readCounty 210 = .ok (.goto 58, 3) := by decide +kernel
theorem dX12_readCounty_213 : decode cX12_readCounty 213 = .ok (.iload_n 3, 1) := by decide +kernel
theorem dX12_readCounty_214 : decode cX12_readCounty 214 = .ok (.bipush 119, 2) := by decide +kernel
theorem dX12_readCounty_216 : decode cX12_readCounty 216 = .ok (.if_icmp .ne 48, 3) := by decide +kernel
theorem dX12_readCounty_219 : decode cX12_readCounty 219 = .ok (.aload_n 0, 1) := by decide +kernel
theorem dX12_readCounty_220 : decode cX12_readCounty 220 = .ok (.getfield 265, 3) := by decide +kernel
theorem dX12_readCounty_223 : decode cX12_readCounty 223 = .ok (.iconst 4, 1) := by decide +kernel
theorem dX12_readCounty_224 : decode cX12_readCounty 224 = .ok (.if_icmp .ge 40, 3) := by decide +kernel
theorem dX12_readCounty_227 : decode cX12_readCounty 227 = .ok (.aload_n 0, 1) := by decide +kernel
theorem dX12_readCounty_228 : decode cX12_readCounty 228 = .ok (.dup, 1) := by decide +kernel
theorem dX12_readCounty_229 : decode cX12_readCounty 229 = .ok (.getfield 130, 3) := by decide +kernel
theorem dX12_readCounty_232 : decode cX12_readCounty 232 = .ok (.iconst 1, 1) := by decide +kernel
theorem dX12_readCounty_233 : decode cX12_readCounty 233 = .ok (.iadd, 1) := by decide +kernel
theorem dX12_readCounty_234 : decode cX12_readCounty 234 = .ok (.putfield 130, 3) := by decide +kernel
theorem dX12_readCounty_237 : decode cX12_readCounty 237 = .ok (.aload_n 0, 1) := by decide +kernel
theorem dX12_readCounty_238 : decode cX12_readCounty 238 = .ok (.iload_n 3, 1) := by decide +kernel
theorem dX12_readCounty_239 : decode cX12_readCounty 239 = .ok (.aload_n 0, 1) := by decide +kernel
theorem dX12_readCounty_240 : decode cX12_readCounty 240 = .ok (.getfield 49, 3) := by decide +kernel
theorem dX12_readCounty_243 : decode cX12_readCounty 243 = .ok (.aload_n 0, 1) := by decide +kernel
theorem dX12_readCounty_244 : decode cX12_readCounty 244 = .ok (.getfield 265, 3) := by decide +kernel
theorem dX12_readCounty_247 : decode cX12_readCounty 247 = .ok (.iconst 1, 1) := by decide +kernel
theorem dX12_readCounty_248 : decode cX12_readCounty 248 = .ok (.invokevirtual 268, 3) := by decide +kernel
theorem dX12_readCounty_251 : decode cX12_readCounty 251 = .ok (.aload_n 0, 1) := by decide +kernel
theorem dX12_readCounty_252 : decode cX12_readCounty 252 = .ok (.dup, 1) := by decide +kernel
theorem dX12_readCounty_253 : decode cX12_readCounty 253 = .ok (.getfield 265, 3) := by decide +kernel
theorem dX12_readCounty_256 : decode cX12_readCounty 256 = .ok (.iconst 1, 1) := by decide +kernel
theorem dX12_readCounty_257 : decode cX12_readCounty 257 = .ok (.iadd, 1) := by decide +kernel
theorem dX12_readCounty_258 : decode cX12_readCounty 258 = .ok (.putfield 265, 3) := by decide +kernel
theorem dX12_readCounty_261 : decode cX12_readCounty 261 = .ok (.goto 7, 3) := by decide +kernel
theorem dX12_readCounty_264 : decode cX12_readCounty 264 = .ok (.aload_n 0, 1) := by decide +kernel
theorem dX12_readCounty_265 : decode cX12_readCounty 265 = .ok (.invokevirtual 146, 3) := by decide +kernel
theorem dX12_readCounty_268 : decode cX12_readCounty 268 = .ok (.aload_n 0, 1) := by decide +kernel
theorem dX12_readCounty_269 : decode cX12_readCounty 269 = .ok (.getfield 137, 3) := by decide +kernel
theorem dX12_readCounty_272 : decode cX12_readCounty 272 = .ok (.iconst (-1), 1) := by decide +kernel
theorem dX12_readCounty_273 : decode cX12_readCounty 273 = .ok (.if_icmp .ne 16, 3) := by decide +kernel
theorem dX12_readCounty_276 : decode cX12_readCounty 276 = .ok (.aload_n 0, 1) := by decide +kernel
theorem dX12_readCounty_277 : decode cX12_readCounty 277 = .ok (.invokevirtual 149, 3) := by decide +kernel
theorem dX12_readCounty_280 : decode cX12_readCounty 280 = .ok (.bipush 59, 2) := by decide +kernel
theorem dX12_readCounty_282 : decode cX12_readCounty 282 = .ok (.if_icmp .ne 7, 3) := by decide +kernel
theorem dX12_readCounty_285 : decode cX12_readCounty 285 = .ok (.iconst 1, 1) := by decide +kernel
theorem dX12_readCounty_286 : decode cX12_readCounty 286 = .ok (.goto 4, 3) := by decide +kernel
theorem dX12_readCounty_289 : decode cX12_readCounty 289 = .ok (.iconst 0, 1) := by decide +kernel
theorem dX12_readCounty_290 : decode cX12_readCounty 290 = .ok (.istore_n 2, 1) := by decide +kernel
theorem dX12_readCounty_291 : decode cX12_readCounty 291 = .ok (.aload_n 0, 1) := by decide +kernel
theorem dX12_readCounty_292 : decode cX12_readCounty 292 = .ok (.dup, 1) := by decide +kernel
theorem dX12_readCounty_293 : decode cX12_readCounty 293 = .ok (.getfield 130, 3) := by decide +kernel
theorem dX12_readCounty_296 : decode cX12_readCounty 296 = .ok (.iload_n 2, 1) := by decide +kernel
theorem dX12_readCounty_297 : decode cX12_readCounty 297 = .ok (.ifCond .eq 7, 3) := by decide +kernel
theorem dX12_readCounty_300 : decode cX12_readCounty 300 = .ok (.iconst 1, 1) := by decide +kernel
theorem dX12_readCounty_301 : decode cX12_readCounty 301 = .ok (.goto 4, 3) := by decide +kernel
theorem dX12_readCounty_304 : decode cX12_readCounty 304 = .ok (.iconst 0, 1) := by decide +kernel
theorem dX12_readCounty_305 : decode cX12_readCounty 305 = .ok (.iadd, 1) := by decide +kernel
theorem dX12_readCounty_306 : decode cX12_readCounty 306 = .ok (.putfield 130, 3) := by decide +kernel
theorem dX12_readCounty_309 : decode cX12_readCounty 309 = .ok (.goto (-255), 3) := by decide +kernel
theorem dX12_readCounty_312 : decode cX12_readCounty 312 = .ok (.aload_n 0, 1) := by decide +kernel
theorem dX12_readCounty_313 : decode cX12_readCounty 313 = .ok (.getfield 137, 3) := by decide +kernel
theorem dX12_readCounty_316 : decode cX12_readCounty 316 = .ok (.iconst (-1), 1) := by decide +kernel
theorem dX12_readCounty_317 : decode cX12_readCounty 317 = .ok (.if_icmp .ne 22, 3) := by decide +kernel
theorem dX12_readCounty_320 : decode cX12_readCounty 320 = .ok (.aload_n 0, 1) := by decide +kernel
theorem dX12_readCounty_321 : decode cX12_readCounty 321 = .ok (.invokevirtual 149, 3) := by decide +kernel
theorem dX12_readCounty_324 : decode cX12_readCounty 324 = .ok (.iconst (-1), 1) := by decide +kernel
theorem dX12_readCounty_325 : decode cX12_readCounty 325 = .ok (.if_icmp .ne 10, 3) := by decide +kernel
theorem dX12_readCounty_328 : decode cX12_readCounty 328 = .ok (.aload_n 0, 1) := by decide +kernel
theorem dX12_readCounty_329 : decode cX12_readCounty 329 = .ok (.invokevirtual 272, 3) := by decide +kernel
theorem dX12_readCounty_332 : decode cX12_readCounty 332 = .ok (.ifCond .ne 7, 3) := by decide +kernel
theorem dX12_readCounty_335 : decode cX12_readCounty 335 = .ok (.aload_n 0, 1) := by decide +kernel
theorem dX12_readCounty_336 : decode cX12_readCounty 336 = .ok (.invokevirtual 146, 3) := by decide +kernel
theorem dX12_readCounty_339 : decode cX12_readCounty 339 = .ok (.aload_n 0, 1) := by decide +kernel
theorem dX12_readCounty_340 : decode cX12_readCounty 340 = .ok (.getfield 137, 3) := by decide +kernel
theorem dX12_readCounty_343 : decode cX12_readCounty 343 = .ok (.ireturn, 1) := by decide +kernel
theorem dX12_readWay_0 : decode cX12_readWay 0 = .ok (.aload_n 0, 1) := by decide +kernel
theorem dX12_readWay_1 : decode cX12_readWay 1 = .ok (.iconst 0, 1) := by decide +kernel
theorem dX12_readWay_2 : decode cX12_readWay 2 = .ok (.putfield 130, 3) := by decide +kernel
theorem dX12_readWay_5 : decode cX12_readWay 5 = .ok (.aload_n 0, 1) := by decide +kernel
theorem dX12_readWay_6 : decode cX12_readWay 6 = .ok (.iconst (-1), 1) := by decide +kernel
theorem dX12_readWay_7 : decode cX12_readWay 7 = .ok (.putfield 137, 3) := by decide +kernel
theorem dX12_readWay_10 : decode cX12_readWay 10 = .ok (.aload_n 0, 1) := by decide +kernel
theorem dX12_readWay_11 : decode cX12_readWay 11 = .ok (.getfield 67, 3) := by decide +kernel
theorem dX12_readWay_14 : decode cX12_readWay 14 = .ok (.iload_n 1, 1) := by decide +kernel
theorem dX12_readWay_15 : decode cX12_readWay 15 = .ok (.iconst 0, 1) := by decide +kernel
theorem dX12_readWay_16 : decode cX12_readWay 16 = .ok (.iastore, 1) := by decide +kernel
theorem dX12_readWay_17 : decode cX12_readWay 17 = .ok (.aload_n 0, 1) := by decide +kernel
theorem dX12_readWay_18 : decode cX12_readWay 18 = .ok (.invokevirtual 149, 3) := by decide +kernel
theorem dX12_readWay_21 : decode cX12_readWay 21 = .ok (.invokestatic 152, 3) := by decide +kernel
theorem dX12_readWay_24 : decode cX12_readWay 24 = .ok (.ifCond .eq 60, 3) := by decide +kernel
theorem dX12_readWay_27 : decode cX12_readWay 27 = .ok (.aload_n 0, 1) := by decide +kernel
theorem dX12_readWay_28 : decode cX12_readWay 28 = .ok (.getfield 67, 3) := by decide +kernel
theorem dX12_readWay_31 : decode cX12_readWay 31 = .ok (.iload_n 1, 1) := by decide +kernel
theorem dX12_readWay_32 : decode cX12_readWay 32 = .ok (.iaload, 1) := by decide +kernel
theorem dX12_readWay_33 : decode cX12_readWay 33 = .ok (.bipush 12, 2) := by decide +kernel
theorem dX12_readWay_35 : decode cX12_readWay 35 = .ok (.if_icmp .ge 49, 3) := by decide +kernel
theorem dX12_readWay_38 : decode cX12_readWay 38 = .ok (.aload_n 0, 1) := by decide +kernel
theorem dX12_readWay_39 : decode cX12_readWay 39 = .ok (.getfield 64, 3) := by decide +kernel
theorem dX12_readWay_42 : decode cX12_readWay 42 = .ok (.bipush 12, 2) := by decide +kernel
theorem dX12_readWay_44 : decode cX12_readWay 44 = .ok (.iload_n 1, 1) := by decide +kernel
theorem dX12_readWay_45 : decode cX12_readWay 45 = .ok (.imul, 1) := by decide +kernel
theorem dX12_readWay_46 : decode cX12_readWay 46 = .ok (.aload_n 0, 1) := by decide +kernel
theorem dX12_readWay_47 : decode cX12_readWay 47 = .ok (.getfield 67, 3) := by decide +kernel
theorem dX12_readWay_50 : decode cX12_readWay 50 = .ok (.iload_n 1, 1) := by decide +kernel
theorem dX12_readWay_51 : decode cX12_readWay 51 = .ok (.iaload, 1) := by decide +kernel
theorem dX12_readWay_52 : decode cX12_readWay 52 = .ok (.iadd, 1) := by decide +kernel
theorem dX12_readWay_53 : decode cX12_readWay 53 = .ok (.aload_n 0, 1) := by decide +kernel
theorem dX12_readWay_54 : decode cX12_readWay 54 = .ok (.invokevirtual 133, 3) := by decide +kernel
theorem dX12_readWay_57 : decode cX12_readWay 57 = .ok (.bipush 48, 2) := by decide +kernel
theorem dX12_readWay_59 : decode cX12_readWay 59 = .ok (.isub, 1) := by decide +kernel
theorem dX12_readWay_60 : decode cX12_readWay 60 = .ok (.iastore, 1) := by decide +kernel
theorem dX12_readWay_61 : decode cX12_readWay 61 = .ok (.aload_n 0, 1) := by decide +kernel
theorem dX12_readWay_62 : decode cX12_readWay 62 = .ok (.getfield 67, 3) := by decide +kernel
theorem dX12_readWay_65 : decode cX12_readWay 65 = .ok (.iload_n 1, 1) := by decide +kernel
theorem dX12_readWay_66 : decode cX12_readWay 66 = .ok (.dup2, 1) := by decide +kernel
theorem dX12_readWay_67 : decode cX12_readWay 67 = .ok (.iaload, 1) := by decide +kernel
theorem dX12_readWay_68 : decode cX12_readWay 68 = .ok (.iconst 1, 1) := by decide +kernel
theorem dX12_readWay_69 : decode cX12_readWay 69 = .ok (.iadd, 1) := by decide +kernel
theorem dX12_readWay_70 : decode cX12_readWay 70 = .ok (.iastore, 1) := by decide +kernel
theorem dX12_readWay_71 : decode cX12_readWay 71 = .ok (.aload_n 0, 1) := by decide +kernel
theorem dX12_readWay_72 : decode cX12_readWay 72 = .ok (.dup, 1) := by decide +kernel
theorem dX12_readWay_73 : decode cX12_readWay 73 = .ok (.getfield 130, 3) := by decide +kernel
theorem dX12_readWay_76 : decode cX12_readWay 76 = .ok (.iconst 1, 1) := by decide +kernel
theorem dX12_readWay_77 : decode cX12_readWay 77 = .ok (.iadd, 1) := by decide +kernel
theorem dX12_readWay_78 : decode cX12_readWay 78 = .ok (.putfield 130, 3) := by decide +kernel
theorem dX12_readWay_81 : decode cX12_readWay 81 = .ok (.goto (-64), 3) := by decide +kernel
theorem dX12_readWay_84 : decode cX12_readWay 84 = .ok (.aload_n 0, 1) := by decide +kernel
theorem dX12_readWay_85 : decode cX12_readWay 85 = .ok (.invokevirtual 149, 3) := by decide +kernel
theorem dX12_readWay_88 : decode cX12_readWay 88 = .ok (.iconst (-1), 1) := by decide +kernel
theorem dX12_readWay_89 : decode cX12_readWay 89 = .ok (.if_icmp .ne 13, 3) := by decide +kernel
theorem dX12_readWay_92 : decode cX12_readWay 92 = .ok (.aload_n 0, 1) := by decide +kernel
theorem dX12_readWay_93 : decode cX12_readWay 93 = .ok (.getfield 67, 3) := by decide +kernel
theorem dX12_readWay_96 : decode cX12_readWay 96 = .ok (.iload_n 1, 1) := by decide +kernel
theorem dX12_readWay_97 : decode cX12_readWay 97 = .ok (.iaload, 1) := by decide +kernel
theorem dX12_readWay_98 : decode cX12_readWay 98 = .ok (.iconst 2, 1) := by decide +kernel
theorem dX12_readWay_99 : decode cX12_readWay 99 = .ok (.if_icmp .ge 7, 3) := by decide +kernel
theorem dX12_readWay_102 : decode cX12_readWay 102 = .ok (.aload_n 0, 1) := by decide +kernel
theorem dX12_readWay_103 : decode cX12_readWay 103 = .ok (.invokevirtual 146, 3) := by decide +kernel
theorem dX12_readWay_106 : decode cX12_readWay 106 = .ok (.aload_n 0, 1) := by decide +kernel
theorem dX12_readWay_107 : decode cX12_readWay 107 = .ok (.getfield 137, 3) := by decide +kernel
theorem dX12_readWay_110 : decode cX12_readWay 110 = .ok (.ireturn, 1) := by decide +kernel
theorem dX12_fault_0 : decode cX12_fault 0 = .ok (.iload_n 1, 1) := by decide +kernel
theorem dX12_fault_1 : decode cX12_fault 1 = .ok (.ifCond .ne 10, 3) := by decide +kernel
theorem dX12_fault_4 : decode cX12_fault 4 = .ok (.aload_n 0, 1) := by decide +kernel
theorem dX12_fault_5 : decode cX12_fault 5 = .ok (.invokevirtual 276, 3) := by decide +kernel
theorem dX12_fault_8 : decode cX12_fault 8 = .ok (.goto 31, 3) := by decide +kernel
theorem dX12_fault_11 : decode cX12_fault 11 = .ok (.iload_n 1, 1) := by decide +kernel
theorem dX12_fault_12 : decode cX12_fault 12 = .ok (.iconst 1, 1) := by decide +kernel
theorem dX12_fault_13 : decode cX12_fault 13 = .ok (.if_icmp .ne 11, 3) := by decide +kernel
theorem dX12_fault_16 : decode cX12_fault 16 = .ok (.aload_n 0, 1) := by decide +kernel
theorem dX12_fault_17 : decode cX12_fault 17 = .ok (.iconst 4, 1) := by decide +kernel
theorem dX12_fault_18 : decode cX12_fault 18 = .ok (.invokevirtual 279, 3) := by decide +kernel
theorem dX12_fault_21 : decode cX12_fault 21 = .ok (.goto 18, 3) := by decide +kernel
theorem dX12_fault_24 : decode cX12_fault 24 = .ok (.iload_n 1, 1) := by decide +kernel
theorem dX12_fault_25 : decode cX12_fault 25 = .ok (.iconst 2, 1) := by decide +kernel
theorem dX12_fault_26 : decode cX12_fault 26 = .ok (.if_icmp .ne 11, 3) := by decide +kernel
theorem dX12_fault_29 : decode cX12_fault 29 = .ok (.aload_n 0, 1) := by decide +kernel
theorem dX12_fault_30 : decode cX12_fault 30 = .ok (.iconst 4, 1) := by decide +kernel
theorem dX12_fault_31 : decode cX12_fault 31 = .ok (.invokevirtual 282, 3) := by decide +kernel
theorem dX12_fault_34 : decode cX12_fault 34 = .ok (.goto 5, 3) := by decide +kernel
theorem dX12_fault_37 : decode cX12_fault 37 = .ok (.bipush (-2), 2) := by decide +kernel
theorem dX12_fault_39 : decode cX12_fault 39 = .ok (.ireturn, 1) := by decide +kernel
theorem dX12_layTold_0 : decode cX12_layTold 0 = .ok (.iconst 0, 1) := by decide +kernel
theorem dX12_layTold_1 : decode cX12_layTold 1 = .ok (.istore_n 1, 1) := by decide +kernel
theorem dX12_layTold_2 : decode cX12_layTold 2 = .ok (.iload_n 1, 1) := by decide +kernel
theorem dX12_layTold_3 : decode cX12_layTold 3 = .ok (.bipush 34, 2) := by decide +kernel
theorem dX12_layTold_5 : decode cX12_layTold 5 = .ok (.if_icmp .ge 16, 3) := by decide +kernel
theorem dX12_layTold_8 : decode cX12_layTold 8 = .ok (.aload_n 0, 1) := by decide +kernel
theorem dX12_layTold_9 : decode cX12_layTold 9 = .ok (.getfield 70, 3) := by decide +kernel
theorem dX12_layTold_12 : decode cX12_layTold 12 = .ok (.iload_n 1, 1) := by decide +kernel
theorem dX12_layTold_13 : decode cX12_layTold 13 = .ok (.iconst 0, 1) := by decide +kernel
theorem dX12_layTold_14 : decode cX12_layTold 14 = .ok (.iastore, 1) := by decide +kernel
theorem dX12_layTold_15 : decode cX12_layTold 15 = .ok (.iinc 1 1, 3) := by decide +kernel
theorem dX12_layTold_18 : decode cX12_layTold 18 = .ok (.goto (-16), 3) := by decide +kernel
theorem dX12_layTold_21 : decode cX12_layTold 21 = .ok (.iconst 0, 1) := by decide +kernel
theorem dX12_layTold_22 : decode cX12_layTold 22 = .ok (.istore_n 1, 1) := by decide +kernel
theorem dX12_layTold_23 : decode cX12_layTold 23 = .ok (.iload_n 1, 1) := by decide +kernel
theorem dX12_layTold_24 : decode cX12_layTold 24 = .ok (.iconst 4, 1) := by decide +kernel
theorem dX12_layTold_25 : decode cX12_layTold 25 = .ok (.if_icmp .ge 44, 3) := by decide +kernel
theorem dX12_layTold_28 : decode cX12_layTold 28 = .ok (.aload_n 0, 1) := by decide +kernel
theorem dX12_layTold_29 : decode cX12_layTold 29 = .ok (.getfield 70, 3) := by decide +kernel
theorem dX12_layTold_32 : decode cX12_layTold 32 = .ok (.iconst 0, 1) := by decide +kernel
theorem dX12_layTold_33 : decode cX12_layTold 33 = .ok (.iload_n 1, 1) := by decide +kernel
theorem dX12_layTold_34 : decode cX12_layTold 34 = .ok (.iadd, 1) := by decide +kernel
theorem dX12_layTold_35 : decode cX12_layTold 35 = .ok (.iload_n 1, 1) := by decide +kernel
theorem dX12_layTold_36 : decode cX12_layTold 36 = .ok (.aload_n 0, 1) := by decide +kernel
theorem dX12_layTold_37 : decode cX12_layTold 37 = .ok (.getfield 285, 3) := by decide +kernel
theorem dX12_layTold_40 : decode cX12_layTold 40 = .ok (.if_icmp .ge 12, 3) := by decide +kernel
theorem dX12_layTold_43 : decode cX12_layTold 43 = .ok (.aload_n 0, 1) := by decide +kernel
theorem dX12_layTold_44 : decode cX12_layTold 44 = .ok (.getfield 61, 3) := by decide +kernel
theorem dX12_layTold_47 : decode cX12_layTold 47 = .ok (.iload_n 1, 1) := by decide +kernel
theorem dX12_layTold_48 : decode cX12_layTold 48 = .ok (.iaload, 1) := by decide +kernel
theorem dX12_layTold_49 : decode cX12_layTold 49 = .ok (.goto 4, 3) := by decide +kernel
theorem dX12_layTold_52 : decode cX12_layTold 52 = .ok (.iconst 0, 1) := by decide +kernel
theorem dX12_layTold_53 : decode cX12_layTold 53 = .ok (.iastore, 1) := by decide +kernel
theorem dX12_layTold_54 : decode cX12_layTold 54 = .ok (.aload_n 0, 1) := by decide +kernel
theorem dX12_layTold_55 : decode cX12_layTold 55 = .ok (.getfield 70, 3) := by decide +kernel
theorem dX12_layTold_58 : decode cX12_layTold 58 = .ok (.iconst 4, 1) := by decide +kernel
theorem dX12_layTold_59 : decode cX12_layTold 59 = .ok (.iload_n 1, 1) := by decide +kernel
theorem dX12_layTold_60 : decode cX12_layTold 60 = .ok (.iadd, 1) := by decide +kernel
theorem dX12_layTold_61 : decode cX12_layTold 61 = .ok (.iconst (-1), 1) := by decide +kernel
theorem dX12_layTold_62 : decode cX12_layTold 62 = .ok (.iastore, 1) := by decide +kernel
theorem dX12_layTold_63 : decode cX12_layTold 63 = .ok (.iinc 1 1, 3) := by decide +kernel
theorem dX12_layTold_66 : decode cX12_layTold 66 = .ok (.goto (-43), 3) := by decide +kernel
theorem dX12_layTold_69 : decode cX12_layTold 69 = .ok (.aload_n 0, 1) := by decide +kernel
theorem dX12_layTold_70 : decode cX12_layTold 70 = .ok (.getfield 70, 3) := by decide +kernel
theorem dX12_layTold_73 : decode cX12_layTold 73 = .ok (.bipush 32, 2) := by decide +kernel
theorem dX12_layTold_75 : decode cX12_layTold 75 = .ok (.aload_n 0, 1) := by decide +kernel
theorem dX12_layTold_76 : decode cX12_layTold 76 = .ok (.getfield 52, 3) := by decide +kernel
theorem dX12_layTold_79 : decode cX12_layTold 79 = .ok (.iconst 1, 1) := by decide +kernel
theorem dX12_layTold_80 : decode cX12_layTold 80 = .ok (.iaload, 1) := by decide +kernel
theorem dX12_layTold_81 : decode cX12_layTold 81 = .ok (.iastore, 1) := by decide +kernel
theorem dX12_layTold_82 : decode cX12_layTold 82 = .ok (.return_, 1) := by decide +kernel
theorem dX12_takeCounty_0 : decode cX12_takeCounty 0 = .ok (.aload_n 0, 1) := by decide +kernel
theorem dX12_takeCounty_1 : decode cX12_takeCounty 1 = .ok (.aload_n 0, 1) := by decide +kernel
theorem dX12_takeCounty_2 : decode cX12_takeCounty 2 = .ok (.getfield 259, 3) := by decide +kernel
theorem dX12_takeCounty_5 : decode cX12_takeCounty 5 = .ok (.putfield 288, 3) := by decide +kernel
theorem dX12_takeCounty_8 : decode cX12_takeCounty 8 = .ok (.aload_n 0, 1) := by decide +kernel
theorem dX12_takeCounty_9 : decode cX12_takeCounty 9 = .ok (.aload_n 0, 1) := by decide +kernel
theorem dX12_takeCounty_10 : decode cX12_takeCounty 10 = .ok (.getfield 262, 3) := by decide +kernel
theorem dX12_takeCounty_13 : decode cX12_takeCounty 13 = .ok (.putfield 291, 3) := by decide +kernel
theorem dX12_takeCounty_16 : decode cX12_takeCounty 16 = .ok (.aload_n 0, 1) := by decide +kernel
theorem dX12_takeCounty_17 : decode cX12_takeCounty 17 = .ok (.aload_n 0, 1) := by decide +kernel
theorem dX12_takeCounty_18 : decode cX12_takeCounty 18 = .ok (.getfield 265, 3) := by decide +kernel
theorem dX12_takeCounty_21 : decode cX12_takeCounty 21 = .ok (.putfield 285, 3) := by decide +kernel
theorem dX12_takeCounty_24 : decode cX12_takeCounty 24 = .ok (.iconst 0, 1) := by decide +kernel
theorem dX12_takeCounty_25 : decode cX12_takeCounty 25 = .ok (.istore_n 1, 1) := by decide +kernel
theorem dX12_takeCounty_26 : decode cX12_takeCounty 26 = .ok (.iload_n 1, 1) := by decide +kernel
theorem dX12_takeCounty_27 : decode cX12_takeCounty 27 = .ok (.iconst 2, 1) := by decide +kernel
theorem dX12_takeCounty_28 : decode cX12_takeCounty 28 = .ok (.if_icmp .ge 21, 3) := by decide +kernel
theorem dX12_takeCounty_31 : decode cX12_takeCounty 31 = .ok (.aload_n 0, 1) := by decide +kernel
theorem dX12_takeCounty_32 : decode cX12_takeCounty 32 = .ok (.getfield 52, 3) := by decide +kernel
theorem dX12_takeCounty_35 : decode cX12_takeCounty 35 = .ok (.iload_n 1, 1) := by decide +kernel
theorem dX12_takeCounty_36 : decode cX12_takeCounty 36 = .ok (.aload_n 0, 1) := by decide +kernel
theorem dX12_takeCounty_37 : decode cX12_takeCounty 37 = .ok (.getfield 40, 3) := by decide +kernel
theorem dX12_takeCounty_40 : decode cX12_takeCounty 40 = .ok (.iload_n 1, 1) := by decide +kernel
theorem dX12_takeCounty_41 : decode cX12_takeCounty 41 = .ok (.iaload, 1) := by decide +kernel
theorem dX12_takeCounty_42 : decode cX12_takeCounty 42 = .ok (.iastore, 1) := by decide +kernel
theorem dX12_takeCounty_43 : decode cX12_takeCounty 43 = .ok (.iinc 1 1, 3) := by decide +kernel
theorem dX12_takeCounty_46 : decode cX12_takeCounty 46 = .ok (.goto (-20), 3) := by decide +kernel
theorem dX12_takeCounty_49 : decode cX12_takeCounty 49 = .ok (.iconst 0, 1) := by decide +kernel
theorem dX12_takeCounty_50 : decode cX12_takeCounty 50 = .ok (.istore_n 1, 1) := by decide +kernel
theorem dX12_takeCounty_51 : decode cX12_takeCounty 51 = .ok (.iload_n 1, 1) := by decide +kernel
theorem dX12_takeCounty_52 : decode cX12_takeCounty 52 = .ok (.bipush 7, 2) := by decide +kernel
theorem dX12_takeCounty_54 : decode cX12_takeCounty 54 = .ok (.if_icmp .ge 21, 3) := by decide +kernel
theorem dX12_takeCounty_57 : decode cX12_takeCounty 57 = .ok (.aload_n 0, 1) := by decide +kernel
theorem dX12_takeCounty_58 : decode cX12_takeCounty 58 = .ok (.getfield 55, 3) := by decide +kernel
theorem dX12_takeCounty_61 : decode cX12_takeCounty 61 = .ok (.iload_n 1, 1) := by decide +kernel
theorem dX12_takeCounty_62 : decode cX12_takeCounty 62 = .ok (.aload_n 0, 1) := by decide +kernel
theorem dX12_takeCounty_63 : decode cX12_takeCounty 63 = .ok (.getfield 43, 3) := by decide +kernel
theorem dX12_takeCounty_66 : decode cX12_takeCounty 66 = .ok (.iload_n 1, 1) := by decide +kernel
theorem dX12_takeCounty_67 : decode cX12_takeCounty 67 = .ok (.iaload, 1) := by decide +kernel
theorem dX12_takeCounty_68 : decode cX12_takeCounty 68 = .ok (.iastore, 1) := by decide +kernel
theorem dX12_takeCounty_69 : decode cX12_takeCounty 69 = .ok (.iinc 1 1, 3) := by decide +kernel
theorem dX12_takeCounty_72 : decode cX12_takeCounty 72 = .ok (.goto (-21), 3) := by decide +kernel
theorem dX12_takeCounty_75 : decode cX12_takeCounty 75 = .ok (.iconst 0, 1) := by decide +kernel
theorem dX12_takeCounty_76 : decode cX12_takeCounty 76 = .ok (.istore_n 1, 1) := by decide +kernel
theorem dX12_takeCounty_77 : decode cX12_takeCounty 77 = .ok (.iload_n 1, 1) := by decide +kernel
theorem dX12_takeCounty_78 : decode cX12_takeCounty 78 = .ok (.bipush 48, 2) := by decide +kernel
theorem dX12_takeCounty_80 : decode cX12_takeCounty 80 = .ok (.if_icmp .ge 21, 3) := by decide +kernel
theorem dX12_takeCounty_83 : decode cX12_takeCounty 83 = .ok (.aload_n 0, 1) := by decide +kernel
theorem dX12_takeCounty_84 : decode cX12_takeCounty 84 = .ok (.getfield 58, 3) := by decide +kernel
theorem dX12_takeCounty_87 : decode cX12_takeCounty 87 = .ok (.iload_n 1, 1) := by decide +kernel
theorem dX12_takeCounty_88 : decode cX12_takeCounty 88 = .ok (.aload_n 0, 1) := by decide +kernel
theorem dX12_takeCounty_89 : decode cX12_takeCounty 89 = .ok (.getfield 46, 3) := by decide +kernel
theorem dX12_takeCounty_92 : decode cX12_takeCounty 92 = .ok (.iload_n 1, 1) := by decide +kernel
theorem dX12_takeCounty_93 : decode cX12_takeCounty 93 = .ok (.iaload, 1) := by decide +kernel
theorem dX12_takeCounty_94 : decode cX12_takeCounty 94 = .ok (.iastore, 1) := by decide +kernel
theorem dX12_takeCounty_95 : decode cX12_takeCounty 95 = .ok (.iinc 1 1, 3) := by decide +kernel
theorem dX12_takeCounty_98 : decode cX12_takeCounty 98 = .ok (.goto (-21), 3) := by decide +kernel
theorem dX12_takeCounty_101 : decode cX12_takeCounty 101 = .ok (.iconst 0, 1) := by decide +kernel
theorem dX12_takeCounty_102 : decode cX12_takeCounty 102 = .ok (.istore_n 1, 1) := by decide +kernel
theorem dX12_takeCounty_103 : decode cX12_takeCounty 103 = .ok (.iload_n 1, 1) := by decide +kernel
theorem dX12_takeCounty_104 : decode cX12_takeCounty 104 = .ok (.iconst 4, 1) := by decide +kernel
theorem dX12_takeCounty_105 : decode cX12_takeCounty 105 = .ok (.if_icmp .ge 21, 3) := by decide +kernel
theorem dX12_takeCounty_108 : decode cX12_takeCounty 108 = .ok (.aload_n 0, 1) := by decide +kernel
theorem dX12_takeCounty_109 : decode cX12_takeCounty 109 = .ok (.getfield 61, 3) := by decide +kernel
theorem dX12_takeCounty_112 : decode cX12_takeCounty 112 = .ok (.iload_n 1, 1) := by decide +kernel
theorem dX12_takeCounty_113 : decode cX12_takeCounty 113 = .ok (.aload_n 0, 1) := by decide +kernel
theorem dX12_takeCounty_114 : decode cX12_takeCounty 114 = .ok (.getfield 49, 3) := by decide +kernel
theorem dX12_takeCounty_117 : decode cX12_takeCounty 117 = .ok (.iload_n 1, 1) := by decide +kernel
theorem dX12_takeCounty_118 : decode cX12_takeCounty 118 = .ok (.iaload, 1) := by decide +kernel
theorem dX12_takeCounty_119 : decode cX12_takeCounty 119 = .ok (.iastore, 1) := by decide +kernel
theorem dX12_takeCounty_120 : decode cX12_takeCounty 120 = .ok (.iinc 1 1, 3) := by decide +kernel
theorem dX12_takeCounty_123 : decode cX12_takeCounty 123 = .ok (.goto (-20), 3) := by decide +kernel
theorem dX12_takeCounty_126 : decode cX12_takeCounty 126 = .ok (.iconst 0, 1) := by decide +kernel
theorem dX12_takeCounty_127 : decode cX12_takeCounty 127 = .ok (.istore_n 1, 1) := by decide +kernel
theorem dX12_takeCounty_128 : decode cX12_takeCounty 128 = .ok (.iload_n 1, 1) := by decide +kernel
theorem dX12_takeCounty_129 : decode cX12_takeCounty 129 = .ok (.sipush 215, 3) := by decide +kernel
theorem dX12_takeCounty_132 : decode cX12_takeCounty 132 = .ok (.if_icmp .ge 16, 3) := by decide +kernel
theorem dX12_takeCounty_135 : decode cX12_takeCounty 135 = .ok (.aload_n 0, 1) := by decide +kernel
theorem dX12_takeCounty_136 : decode cX12_takeCounty 136 = .ok (.getfield 70, 3) := by decide +kernel
theorem dX12_takeCounty_139 : decode cX12_takeCounty 139 = .ok (.iload_n 1, 1) := by decide +kernel
theorem dX12_takeCounty_140 : decode cX12_takeCounty 140 = .ok (.iconst 0, 1) := by decide +kernel
theorem dX12_takeCounty_141 : decode cX12_takeCounty 141 = .ok (.iastore, 1) := by decide +kernel
theorem dX12_takeCounty_142 : decode cX12_takeCounty 142 = .ok (.iinc 1 1, 3) := by decide +kernel
theorem dX12_takeCounty_145 : decode cX12_takeCounty 145 = .ok (.goto (-17), 3) := by decide +kernel
theorem dX12_takeCounty_148 : decode cX12_takeCounty 148 = .ok (.aload_n 0, 1) := by decide +kernel
theorem dX12_takeCounty_149 : decode cX12_takeCounty 149 = .ok (.invokevirtual 294, 3) := by decide +kernel
theorem dX12_takeCounty_152 : decode cX12_takeCounty 152 = .ok (.aload_n 0, 1) := by decide +kernel
theorem dX12_takeCounty_153 : decode cX12_takeCounty 153 = .ok (.iconst 0, 1) := by decide +kernel
theorem dX12_takeCounty_154 : decode cX12_takeCounty 154 = .ok (.putfield 297, 3) := by decide +kernel
theorem dX12_takeCounty_157 : decode cX12_takeCounty 157 = .ok (.aload_n 0, 1) := by decide +kernel
theorem dX12_takeCounty_158 : decode cX12_takeCounty 158 = .ok (.iconst 0, 1) := by decide +kernel
theorem dX12_takeCounty_159 : decode cX12_takeCounty 159 = .ok (.putfield 300, 3) := by decide +kernel
theorem dX12_takeCounty_162 : decode cX12_takeCounty 162 = .ok (.aload_n 0, 1) := by decide +kernel
theorem dX12_takeCounty_163 : decode cX12_takeCounty 163 = .ok (.iconst 0, 1) := by decide +kernel
theorem dX12_takeCounty_164 : decode cX12_takeCounty 164 = .ok (.putfield 303, 3) := by decide +kernel
theorem dX12_takeCounty_167 : decode cX12_takeCounty 167 = .ok (.aload_n 0, 1) := by decide +kernel
theorem dX12_takeCounty_168 : decode cX12_takeCounty 168 = .ok (.getfield 288, 3) := by decide +kernel
theorem dX12_takeCounty_171 : decode cX12_takeCounty 171 = .ok (.ireturn, 1) := by decide +kernel
theorem dX12_text_0 : decode cX12_text 0 = .ok (.iload_n 1, 1) := by decide +kernel
theorem dX12_text_1 : decode cX12_text 1 = .ok (.ifCond .ne 21, 3) := by decide +kernel
theorem dX12_text_4 : decode cX12_text 4 = .ok (.aload_n 0, 1) := by decide +kernel
theorem dX12_text_5 : decode cX12_text 5 = .ok (.invokevirtual 276, 3) := by decide +kernel
theorem dX12_text_8 : decode cX12_text 8 = .ok (.iconst (-1), 1) := by decide +kernel
theorem dX12_text_9 : decode cX12_text 9 = .ok (.if_icmp .ne 13, 3) := by decide +kernel
theorem dX12_text_12 : decode cX12_text 12 = .ok (.aload_n 0, 1) := by decide +kernel
theorem dX12_text_13 : decode cX12_text 13 = .ok (.iconst 0, 1) := by decide +kernel
theorem dX12_text_14 : decode cX12_text 14 = .ok (.putfield 127, 3) := by decide +kernel
theorem dX12_text_17 : decode cX12_text 17 = .ok (.aload_n 0, 1) := by decide +kernel
theorem dX12_text_18 : decode cX12_text 18 = .ok (.invokevirtual 307, 3) := by decide +kernel
theorem dX12_text_21 : decode cX12_text 21 = .ok (.ireturn, 1) := by decide +kernel
theorem dX12_text_22 : decode cX12_text 22 = .ok (.iload_n 1, 1) := by decide +kernel
theorem dX12_text_23 : decode cX12_text 23 = .ok (.iconst 1, 1) := by decide +kernel
theorem dX12_text_24 : decode cX12_text 24 = .ok (.if_icmp .ne 45, 3) := by decide +kernel
theorem dX12_text_27 : decode cX12_text 27 = .ok (.aload_n 0, 1) := by decide +kernel
theorem dX12_text_28 : decode cX12_text 28 = .ok (.getfield 310, 3) := by decide +kernel
theorem dX12_text_31 : decode cX12_text 31 = .ok (.iconst 4, 1) := by decide +kernel
theorem dX12_text_32 : decode cX12_text 32 = .ok (.if_icmp .ge 37, 3) := by decide +kernel
theorem dX12_text_35 : decode cX12_text 35 = .ok (.aload_n 0, 1) := by decide +kernel
theorem dX12_text_36 : decode cX12_text 36 = .ok (.aload_n 0, 1) := by decide +kernel
theorem dX12_text_37 : decode cX12_text 37 = .ok (.getfield 310, 3) := by decide +kernel
theorem dX12_text_40 : decode cX12_text 40 = .ok (.invokevirtual 279, 3) := by decide +kernel
theorem dX12_text_43 : decode cX12_text 43 = .ok (.iconst (-1), 1) := by decide +kernel
theorem dX12_text_44 : decode cX12_text 44 = .ok (.if_icmp .ne 25, 3) := by decide +kernel
theorem dX12_text_47 : decode cX12_text 47 = .ok (.aload_n 0, 1) := by decide +kernel
theorem dX12_text_48 : decode cX12_text 48 = .ok (.iconst 0, 1) := by decide +kernel
theorem dX12_text_49 : decode cX12_text 49 = .ok (.putfield 127, 3) := by decide +kernel
theorem dX12_text_52 : decode cX12_text 52 = .ok (.aload_n 0, 1) := by decide +kernel
theorem dX12_text_53 : decode cX12_text 53 = .ok (.dup, 1) := by decide +kernel
theorem dX12_text_54 : decode cX12_text 54 = .ok (.getfield 310, 3) := by decide +kernel
theorem dX12_text_57 : decode cX12_text 57 = .ok (.iconst 1, 1) := by decide +kernel
theorem dX12_text_58 : decode cX12_text 58 = .ok (.iadd, 1) := by decide +kernel
theorem dX12_text_59 : decode cX12_text 59 = .ok (.putfield 310, 3) := by decide +kernel
theorem dX12_text_62 : decode cX12_text 62 = .ok (.aload_n 0, 1) := by decide +kernel
theorem dX12_text_63 : decode cX12_text 63 = .ok (.getfield 310, 3) := by decide +kernel
theorem dX12_text_66 : decode cX12_text 66 = .ok (.iconst 1, 1) := by decide +kernel
theorem dX12_text_67 : decode cX12_text 67 = .ok (.isub, 1) := by decide +kernel
theorem dX12_text_68 : decode cX12_text 68 = .ok (.ireturn, 1) := by decide +kernel
theorem dX12_text_69 : decode cX12_text 69 = .ok (.iload_n 1, 1) := by decide +kernel
theorem dX12_text_70 : decode cX12_text 70 = .ok (.iconst 2, 1) := by decide +kernel
theorem dX12_text_71 : decode cX12_text 71 = .ok (.if_icmp .ne 45, 3) := by decide +kernel
theorem dX12_text_74 : decode cX12_text 74 = .ok (.aload_n 0, 1) := by decide +kernel
theorem dX12_text_75 : decode cX12_text 75 = .ok (.getfield 313, 3) := by decide +kernel
theorem dX12_text_78 : decode cX12_text 78 = .ok (.iconst 4, 1) := by decide +kernel
theorem dX12_text_79 : decode cX12_text 79 = .ok (.if_icmp .ge 37, 3) := by decide +kernel
theorem dX12_text_82 : decode cX12_text 82 = .ok (.aload_n 0, 1) := by decide +kernel
theorem dX12_text_83 : decode cX12_text 83 = .ok (.aload_n 0, 1) := by decide +kernel
theorem dX12_text_84 : decode cX12_text 84 = .ok (.getfield 313, 3) := by decide +kernel
theorem dX12_text_87 : decode cX12_text 87 = .ok (.invokevirtual 282, 3) := by decide +kernel
theorem dX12_text_90 : decode cX12_text 90 = .ok (.iconst (-1), 1) := by decide +kernel
theorem dX12_text_91 : decode cX12_text 91 = .ok (.if_icmp .ne 25, 3) := by decide +kernel
theorem dX12_text_94 : decode cX12_text 94 = .ok (.aload_n 0, 1) := by decide +kernel
theorem dX12_text_95 : decode cX12_text 95 = .ok (.iconst 0, 1) := by decide +kernel
theorem dX12_text_96 : decode cX12_text 96 = .ok (.putfield 127, 3) := by decide +kernel
theorem dX12_text_99 : decode cX12_text 99 = .ok (.aload_n 0, 1) := by decide +kernel
theorem dX12_text_100 : decode cX12_text 100 = .ok (.dup, 1) := by decide +kernel
theorem dX12_text_101 : decode cX12_text 101 = .ok (.getfield 313, 3) := by decide +kernel
theorem dX12_text_104 : decode cX12_text 104 = .ok (.iconst 1, 1) := by decide +kernel
theorem dX12_text_105 : decode cX12_text 105 = .ok (.iadd, 1) := by decide +kernel
theorem dX12_text_106 : decode cX12_text 106 = .ok (.putfield 313, 3) := by decide +kernel
theorem dX12_text_109 : decode cX12_text 109 = .ok (.aload_n 0, 1) := by decide +kernel
theorem dX12_text_110 : decode cX12_text 110 = .ok (.getfield 313, 3) := by decide +kernel
theorem dX12_text_113 : decode cX12_text 113 = .ok (.iconst 1, 1) := by decide +kernel
theorem dX12_text_114 : decode cX12_text 114 = .ok (.isub, 1) := by decide +kernel
theorem dX12_text_115 : decode cX12_text 115 = .ok (.ireturn, 1) := by decide +kernel
theorem dX12_text_116 : decode cX12_text 116 = .ok (.iconst (-1), 1) := by decide +kernel
theorem dX12_text_117 : decode cX12_text 117 = .ok (.ireturn, 1) := by decide +kernel
theorem dX12_isPlace_0 : decode cX12_isPlace 0 = .ok (.iload_n 1, 1) := by decide +kernel
theorem dX12_isPlace_1 : decode cX12_isPlace 1 = .ok (.iconst 0, 1) := by decide +kernel
theorem dX12_isPlace_2 : decode cX12_isPlace 2 = .ok (.aload_n 0, 1) := by decide +kernel
theorem dX12_isPlace_3 : decode cX12_isPlace 3 = .ok (.getfield 288, 3) := by decide +kernel
theorem dX12_isPlace_6 : decode cX12_isPlace 6 = .ok (.iconst 1, 1) := by decide +kernel
theorem dX12_isPlace_7 : decode cX12_isPlace 7 = .ok (.isub, 1) := by decide +kernel
theorem dX12_isPlace_8 : decode cX12_isPlace 8 = .ok (.invokestatic 235, 3) := by decide +kernel
theorem dX12_isPlace_11 : decode cX12_isPlace 11 = .ok (.ireturn, 1) := by decide +kernel
theorem dX12_isRoad_0 : decode cX12_isRoad 0 = .ok (.iload_n 1, 1) := by decide +kernel
theorem dX12_isRoad_1 : decode cX12_isRoad 1 = .ok (.iconst 0, 1) := by decide +kernel
theorem dX12_isRoad_2 : decode cX12_isRoad 2 = .ok (.aload_n 0, 1) := by decide +kernel
theorem dX12_isRoad_3 : decode cX12_isRoad 3 = .ok (.getfield 291, 3) := by decide +kernel
theorem dX12_isRoad_6 : decode cX12_isRoad 6 = .ok (.iconst 1, 1) := by decide +kernel
theorem dX12_isRoad_7 : decode cX12_isRoad 7 = .ok (.isub, 1) := by decide +kernel
theorem dX12_isRoad_8 : decode cX12_isRoad 8 = .ok (.invokestatic 235, 3) := by decide +kernel
theorem dX12_isRoad_11 : decode cX12_isRoad 11 = .ok (.ireturn, 1) := by decide +kernel
theorem dX12_isSet_0 : decode cX12_isSet 0 = .ok (.iload_n 1, 1) := by decide +kernel
theorem dX12_isSet_1 : decode cX12_isSet 1 = .ok (.iconst 0, 1) := by decide +kernel
theorem dX12_isSet_2 : decode cX12_isSet 2 = .ok (.aload_n 0, 1) := by decide +kernel
theorem dX12_isSet_3 : decode cX12_isSet 3 = .ok (.getfield 285, 3) := by decide +kernel
theorem dX12_isSet_6 : decode cX12_isSet 6 = .ok (.iconst 1, 1) := by decide +kernel
theorem dX12_isSet_7 : decode cX12_isSet 7 = .ok (.isub, 1) := by decide +kernel
theorem dX12_isSet_8 : decode cX12_isSet 8 = .ok (.invokestatic 235, 3) := by decide +kernel
theorem dX12_isSet_11 : decode cX12_isSet 11 = .ok (.ireturn, 1) := by decide +kernel
theorem dX12_isWay_0 : decode cX12_isWay 0 = .ok (.iload_n 1, 1) := by decide +kernel
theorem dX12_isWay_1 : decode cX12_isWay 1 = .ok (.iconst 0, 1) := by decide +kernel
theorem dX12_isWay_2 : decode cX12_isWay 2 = .ok (.aload_n 0, 1) := by decide +kernel
theorem dX12_isWay_3 : decode cX12_isWay 3 = .ok (.getfield 313, 3) := by decide +kernel
theorem dX12_isWay_6 : decode cX12_isWay 6 = .ok (.iconst 1, 1) := by decide +kernel
theorem dX12_isWay_7 : decode cX12_isWay 7 = .ok (.isub, 1) := by decide +kernel
theorem dX12_isWay_8 : decode cX12_isWay 8 = .ok (.invokestatic 235, 3) := by decide +kernel
theorem dX12_isWay_11 : decode cX12_isWay 11 = .ok (.ireturn, 1) := by decide +kernel
theorem dX12_of_0 : decode cX12_of 0 = .ok (.aload_n 0, 1) := by decide +kernel
theorem dX12_of_1 : decode cX12_of 1 = .ok (.getfield 58, 3) := by decide +kernel
theorem dX12_of_4 : decode cX12_of 4 = .ok (.iconst 4, 1) := by decide +kernel
theorem dX12_of_5 : decode cX12_of 5 = .ok (.iload_n 1, 1) := by decide +kernel
theorem dX12_of_6 : decode cX12_of 6 = .ok (.imul, 1) := by decide +kernel
theorem dX12_of_7 : decode cX12_of 7 = .ok (.iload_n 2, 1) := by decide +kernel
theorem dX12_of_8 : decode cX12_of 8 = .ok (.iadd, 1) := by decide +kernel
theorem dX12_of_9 : decode cX12_of 9 = .ok (.iaload, 1) := by decide +kernel
theorem dX12_of_10 : decode cX12_of 10 = .ok (.ireturn, 1) := by decide +kernel
theorem dX12_isClosed_0 : decode cX12_isClosed 0 = .ok (.aload_n 0, 1) := by decide +kernel
theorem dX12_isClosed_1 : decode cX12_isClosed 1 = .ok (.getfield 70, 3) := by decide +kernel
theorem dX12_isClosed_4 : decode cX12_isClosed 4 = .ok (.bipush 31, 2) := by decide +kernel
theorem dX12_isClosed_6 : decode cX12_isClosed 6 = .ok (.iaload, 1) := by decide +kernel
theorem dX12_isClosed_7 : decode cX12_isClosed 7 = .ok (.iload_n 1, 1) := by decide +kernel
theorem dX12_isClosed_8 : decode cX12_isClosed 8 = .ok (.invokestatic 246, 3) := by decide +kernel
theorem dX12_isClosed_11 : decode cX12_isClosed 11 = .ok (.ireturn, 1) := by decide +kernel
theorem dX12_joins_0 : decode cX12_joins 0 = .ok (.aload_n 0, 1) := by decide +kernel
theorem dX12_joins_1 : decode cX12_joins 1 = .ok (.iload_n 1, 1) := by decide +kernel
theorem dX12_joins_2 : decode cX12_joins 2 = .ok (.iconst 0, 1) := by decide +kernel
theorem dX12_joins_3 : decode cX12_joins 3 = .ok (.invokevirtual 316, 3) := by decide +kernel
theorem dX12_joins_6 : decode cX12_joins 6 = .ok (.iload_n 2, 1) := by decide +kernel
theorem dX12_joins_7 : decode cX12_joins 7 = .ok (.if_icmp .ne 13, 3) := by decide +kernel
theorem dX12_joins_10 : decode cX12_joins 10 = .ok (.aload_n 0, 1) := by decide +kernel
theorem dX12_joins_11 : decode cX12_joins 11 = .ok (.iload_n 1, 1) := by decide +kernel
theorem dX12_joins_12 : decode cX12_joins 12 = .ok (.iconst 1, 1) := by decide +kernel
theorem dX12_joins_13 : decode cX12_joins 13 = .ok (.invokevirtual 316, 3) := by decide +kernel
theorem dX12_joins_16 : decode cX12_joins 16 = .ok (.iload_n 3, 1) := by decide +kernel
theorem dX12_joins_17 : decode cX12_joins 17 = .ok (.if_icmp .eq 23, 3) := by decide +kernel
theorem dX12_joins_20 : decode cX12_joins 20 = .ok (.aload_n 0, 1) := by decide +kernel
theorem dX12_joins_21 : decode cX12_joins 21 = .ok (.iload_n 1, 1) := by decide +kernel
theorem dX12_joins_22 : decode cX12_joins 22 = .ok (.iconst 0, 1) := by decide +kernel
theorem dX12_joins_23 : decode cX12_joins 23 = .ok (.invokevirtual 316, 3) := by decide +kernel
theorem dX12_joins_26 : decode cX12_joins 26 = .ok (.iload_n 3, 1) := by decide +kernel
theorem dX12_joins_27 : decode cX12_joins 27 = .ok (.if_icmp .ne 17, 3) := by decide +kernel
theorem dX12_joins_30 : decode cX12_joins 30 = .ok (.aload_n 0, 1) := by decide +kernel
theorem dX12_joins_31 : decode cX12_joins 31 = .ok (.iload_n 1, 1) := by decide +kernel
theorem dX12_joins_32 : decode cX12_joins 32 = .ok (.iconst 1, 1) := by decide +kernel
theorem dX12_joins_33 : decode cX12_joins 33 = .ok (.invokevirtual 316, 3) := by decide +kernel
theorem dX12_joins_36 : decode cX12_joins 36 = .ok (.iload_n 2, 1) := by decide +kernel
theorem dX12_joins_37 : decode cX12_joins 37 = .ok (.if_icmp .ne 7, 3) := by decide +kernel
theorem dX12_joins_40 : decode cX12_joins 40 = .ok (.iconst 1, 1) := by decide +kernel
theorem dX12_joins_41 : decode cX12_joins 41 = .ok (.goto 4, 3) := by decide +kernel
theorem dX12_joins_44 : decode cX12_joins 44 = .ok (.iconst 0, 1) := by decide +kernel
theorem dX12_joins_45 : decode cX12_joins 45 = .ok (.ireturn, 1) := by decide +kernel
theorem dX12_longBy_0 : decode cX12_longBy 0 = .ok (.aload_n 0, 1) := by decide +kernel
theorem dX12_longBy_1 : decode cX12_longBy 1 = .ok (.iload_n 1, 1) := by decide +kernel
theorem dX12_longBy_2 : decode cX12_longBy 2 = .ok (.iconst 2, 1) := by decide +kernel
theorem dX12_longBy_3 : decode cX12_longBy 3 = .ok (.invokevirtual 316, 3) := by decide +kernel
theorem dX12_longBy_6 : decode cX12_longBy 6 = .ok (.aload_n 0, 1) := by decide +kernel
theorem dX12_longBy_7 : decode cX12_longBy 7 = .ok (.iload_n 1, 1) := by decide +kernel
theorem dX12_longBy_8 : decode cX12_longBy 8 = .ok (.iconst 3, 1) := by decide +kernel
theorem dX12_longBy_9 : decode cX12_longBy 9 = .ok (.invokevirtual 316, 3) := by decide +kernel
theorem dX12_longBy_12 : decode cX12_longBy 12 = .ok (.iconst 4, 1) := by decide +kernel
theorem dX12_longBy_13 : decode cX12_longBy 13 = .ok (.idiv, 1) := by decide +kernel
theorem dX12_longBy_14 : decode cX12_longBy 14 = .ok (.iadd, 1) := by decide +kernel
theorem dX12_longBy_15 : decode cX12_longBy 15 = .ok (.istore_n 2, 1) := by decide +kernel
theorem dX12_longBy_16 : decode cX12_longBy 16 = .ok (.aload_n 0, 1) := by decide +kernel
theorem dX12_longBy_17 : decode cX12_longBy 17 = .ok (.getfield 76, 3) := by decide +kernel
theorem dX12_longBy_20 : decode cX12_longBy 20 = .ok (.iconst (-1), 1) := by decide +kernel
theorem dX12_longBy_21 : decode cX12_longBy 21 = .ok (.if_icmp .eq 112, 3) := by decide +kernel
theorem dX12_longBy_24 : decode cX12_longBy 24 = .ok (.aload_n 0, 1) := by decide +kernel
theorem dX12_longBy_25 : decode cX12_longBy 25 = .ok (.getfield 34, 3) := by decide +kernel
theorem dX12_longBy_28 : decode cX12_longBy 28 = .ok (.iconst 0, 1) := by decide +kernel
theorem dX12_longBy_29 : decode cX12_longBy 29 = .ok (.aload_n 0, 1) := by decide +kernel
theorem dX12_longBy_30 : decode cX12_longBy 30 = .ok (.iload_n 1, 1) := by decide +kernel
theorem dX12_longBy_31 : decode cX12_longBy 31 = .ok (.iconst 2, 1) := by decide +kernel
theorem dX12_longBy_32 : decode cX12_longBy 32 = .ok (.invokevirtual 316, 3) := by decide +kernel
theorem dX12_longBy_35 : decode cX12_longBy 35 = .ok (.iastore, 1) := by decide +kernel
theorem dX12_longBy_36 : decode cX12_longBy 36 = .ok (.aload_n 0, 1) := by decide +kernel
theorem dX12_longBy_37 : decode cX12_longBy 37 = .ok (.getfield 34, 3) := by decide +kernel
theorem dX12_longBy_40 : decode cX12_longBy 40 = .ok (.iconst 1, 1) := by decide +kernel
theorem dX12_longBy_41 : decode cX12_longBy 41 = .ok (.aload_n 0, 1) := by decide +kernel
theorem dX12_longBy_42 : decode cX12_longBy 42 = .ok (.iload_n 1, 1) := by decide +kernel
theorem dX12_longBy_43 : decode cX12_longBy 43 = .ok (.iconst 3, 1) := by decide +kernel
theorem dX12_longBy_44 : decode cX12_longBy 44 = .ok (.invokevirtual 316, 3) := by decide +kernel
theorem dX12_longBy_47 : decode cX12_longBy 47 = .ok (.iastore, 1) := by decide +kernel
theorem dX12_longBy_48 : decode cX12_longBy 48 = .ok (.aload_n 0, 1) := by decide +kernel
theorem dX12_longBy_49 : decode cX12_longBy 49 = .ok (.getfield 34, 3) := by decide +kernel
theorem dX12_longBy_52 : decode cX12_longBy 52 = .ok (.iconst 2, 1) := by decide +kernel
theorem dX12_longBy_53 : decode cX12_longBy 53 = .ok (.aload_n 0, 1) := by decide +kernel
theorem dX12_longBy_54 : decode cX12_longBy 54 = .ok (.getfield 70, 3) := by decide +kernel
theorem dX12_longBy_57 : decode cX12_longBy 57 = .ok (.bipush 12, 2) := by decide +kernel
theorem dX12_longBy_59 : decode cX12_longBy 59 = .ok (.iload_n 1, 1) := by decide +kernel
theorem dX12_longBy_60 : decode cX12_longBy 60 = .ok (.iadd, 1) := by decide +kernel
theorem dX12_longBy_61 : decode cX12_longBy 61 = .ok (.iaload, 1) := by decide +kernel
theorem dX12_longBy_62 : decode cX12_longBy 62 = .ok (.iastore, 1) := by decide +kernel
theorem dX12_longBy_63 : decode cX12_longBy 63 = .ok (.aload_n 0, 1) := by decide +kernel
theorem dX12_longBy_64 : decode cX12_longBy 64 = .ok (.getfield 34, 3) := by decide +kernel
theorem dX12_longBy_67 : decode cX12_longBy 67 = .ok (.iconst 3, 1) := by decide +kernel
theorem dX12_longBy_68 : decode cX12_longBy 68 = .ok (.aload_n 0, 1) := by decide +kernel
theorem dX12_longBy_69 : decode cX12_longBy 69 = .ok (.getfield 55, 3) := by decide +kernel
theorem dX12_longBy_72 : decode cX12_longBy 72 = .ok (.aload_n 0, 1) := by decide +kernel
theorem dX12_longBy_73 : decode cX12_longBy 73 = .ok (.iload_n 1, 1) := by decide +kernel
theorem dX12_longBy_74 : decode cX12_longBy 74 = .ok (.iconst 0, 1) := by decide +kernel
theorem dX12_longBy_75 : decode cX12_longBy 75 = .ok (.invokevirtual 316, 3) := by decide +kernel
theorem dX12_longBy_78 : decode cX12_longBy 78 = .ok (.iaload, 1) := by decide +kernel
theorem dX12_longBy_79 : decode cX12_longBy 79 = .ok (.aload_n 0, 1) := by decide +kernel
theorem dX12_longBy_80 : decode cX12_longBy 80 = .ok (.getfield 55, 3) := by decide +kernel
theorem dX12_longBy_83 : decode cX12_longBy 83 = .ok (.aload_n 0, 1) := by decide +kernel
theorem dX12_longBy_84 : decode cX12_longBy 84 = .ok (.iload_n 1, 1) := by decide +kernel
theorem dX12_longBy_85 : decode cX12_longBy 85 = .ok (.iconst 1, 1) := by decide +kernel
theorem dX12_longBy_86 : decode cX12_longBy 86 = .ok (.invokevirtual 316, 3) := by decide +kernel
theorem dX12_longBy_89 : decode cX12_longBy 89 = .ok (.iaload, 1) := by decide +kernel
theorem dX12_longBy_90 : decode cX12_longBy 90 = .ok (.iadd, 1) := by decide +kernel
theorem dX12_longBy_91 : decode cX12_longBy 91 = .ok (.iastore, 1) := by decide +kernel
theorem dX12_longBy_92 : decode cX12_longBy 92 = .ok (.aload_n 0, 1) := by decide +kernel
theorem dX12_longBy_93 : decode cX12_longBy 93 = .ok (.getfield 34, 3) := by decide +kernel
theorem dX12_longBy_96 : decode cX12_longBy 96 = .ok (.iconst 4, 1) := by decide +kernel
theorem dX12_longBy_97 : decode cX12_longBy 97 = .ok (.aload_n 0, 1) := by decide +kernel
theorem dX12_longBy_98 : decode cX12_longBy 98 = .ok (.getfield 70, 3) := by decide +kernel
theorem dX12_longBy_101 : decode cX12_longBy 101 = .ok (.bipush 31, 2) := by decide +kernel
theorem dX12_longBy_103 : decode cX12_longBy 103 = .ok (.iaload, 1) := by decide +kernel
theorem dX12_longBy_104 : decode cX12_longBy 104 = .ok (.invokestatic 319, 3) := by decide +kernel
theorem dX12_longBy_107 : decode cX12_longBy 107 = .ok (.iastore, 1) := by decide +kernel
theorem dX12_longBy_108 : decode cX12_longBy 108 = .ok (.aload_n 0, 1) := by decide +kernel
theorem dX12_longBy_109 : decode cX12_longBy 109 = .ok (.getfield 34, 3) := by decide +kernel
theorem dX12_longBy_112 : decode cX12_longBy 112 = .ok (.iconst 5, 1) := by decide +kernel
theorem dX12_longBy_113 : decode cX12_longBy 113 = .ok (.aload_n 0, 1) := by decide +kernel
theorem dX12_longBy_114 : decode cX12_longBy 114 = .ok (.getfield 70, 3) := by decide +kernel
theorem dX12_longBy_117 : decode cX12_longBy 117 = .ok (.bipush 33, 2) := by decide +kernel
theorem dX12_longBy_119 : decode cX12_longBy 119 = .ok (.iaload, 1) := by decide +kernel
theorem dX12_longBy_120 : decode cX12_longBy 120 = .ok (.bipush 100, 2) := by decide +kernel
theorem dX12_longBy_122 : decode cX12_longBy 122 = .ok (.irem, 1) := by decide +kernel
theorem dX12_longBy_123 : decode cX12_longBy 123 = .ok (.iastore, 1) := by decide +kernel
theorem dX12_longBy_124 : decode cX12_longBy 124 = .ok (.aload_n 0, 1) := by decide +kernel
theorem dX12_longBy_125 : decode cX12_longBy 125 = .ok (.aload_n 0, 1) := by decide +kernel
theorem dX12_longBy_126 : decode cX12_longBy 126 = .ok (.getfield 76, 3) := by decide +kernel
theorem dX12_longBy_129 : decode cX12_longBy 129 = .ok (.invokevirtual 324, 3) := by decide +kernel
theorem dX12_longBy_132 : decode cX12_longBy 132 = .ok (.istore_n 2, 1) := by decide +kernel
theorem dX12_longBy_133 : decode cX12_longBy 133 = .ok (.iconst 1, 1) := by decide +kernel
theorem dX12_longBy_134 : decode cX12_longBy 134 = .ok (.bipush 24, 2) := by decide +kernel
theorem dX12_longBy_136 : decode cX12_longBy 136 = .ok (.iload_n 2, 1) := by decide +kernel
theorem dX12_longBy_137 : decode cX12_longBy 137 = .ok (.invokestatic 327, 3) := by decide +kernel
theorem dX12_longBy_140 : decode cX12_longBy 140 = .ok (.invokestatic 329, 3) := by decide +kernel
theorem dX12_longBy_143 : decode cX12_longBy 143 = .ok (.ireturn, 1) := by decide +kernel
theorem dX12_layLongs_0 : decode cX12_layLongs 0 = .ok (.iconst 0, 1) := by decide +kernel
theorem dX12_layLongs_1 : decode cX12_layLongs 1 = .ok (.istore_n 1, 1) := by decide +kernel
theorem dX12_layLongs_2 : decode cX12_layLongs 2 = .ok (.iload_n 1, 1) := by decide +kernel
theorem dX12_layLongs_3 : decode cX12_layLongs 3 = .ok (.aload_n 0, 1) := by decide +kernel
theorem dX12_layLongs_4 : decode cX12_layLongs 4 = .ok (.getfield 291, 3) := by decide +kernel
theorem dX12_layLongs_7 : decode cX12_layLongs 7 = .ok (.if_icmp .ge 20, 3) := by decide +kernel
theorem dX12_layLongs_10 : decode cX12_layLongs 10 = .ok (.aload_n 0, 1) := by decide +kernel
theorem dX12_layLongs_11 : decode cX12_layLongs 11 = .ok (.getfield 83, 3) := by decide +kernel
theorem dX12_layLongs_14 : decode cX12_layLongs 14 = .ok (.iload_n 1, 1) := by decide +kernel
theorem dX12_layLongs_15 : decode cX12_layLongs 15 = .ok (.aload_n 0, 1) := by decide +kernel
theorem dX12_layLongs_16 : decode cX12_layLongs 16 = .ok (.iload_n 1, 1) := by decide +kernel
theorem dX12_layLongs_17 : decode cX12_layLongs 17 = .ok (.invokevirtual 331, 3) := by decide +kernel
theorem dX12_layLongs_20 : decode cX12_layLongs 20 = .ok (.iastore, 1) := by decide +kernel
theorem dX12_layLongs_21 : decode cX12_layLongs 21 = .ok (.iinc 1 1, 3) := by decide +kernel
theorem dX12_layLongs_24 : decode cX12_layLongs 24 = .ok (.goto (-22), 3) := by decide +kernel
theorem dX12_layLongs_27 : decode cX12_layLongs 27 = .ok (.return_, 1) := by decide +kernel
theorem dX12_roadBetween_0 : decode cX12_roadBetween 0 = .ok (.iconst (-1), 1) := by decide +kernel
theorem dX12_roadBetween_1 : decode cX12_roadBetween 1 = .ok (.istore_n 3, 1) := by decide +kernel
theorem dX12_roadBetween_2 : decode cX12_roadBetween 2 = .ok (.iconst 0, 1) := by decide +kernel
theorem dX12_roadBetween_3 : decode cX12_roadBetween 3 = .ok (.istore 4, 2) := by decide +kernel
theorem dX12_roadBetween_5 : decode cX12_roadBetween 5 = .ok (.iload 4, 2) := by decide +kernel
theorem dX12_roadBetween_7 : decode cX12_roadBetween 7 = .ok (.aload_n 0, 1) := by decide +kernel
theorem dX12_roadBetween_8 : decode cX12_roadBetween 8 = .ok (.getfield 291, 3) := by decide +kernel
theorem dX12_roadBetween_11 : decode cX12_roadBetween 11 = .ok (.if_icmp .ge 57, 3) := by decide +kernel
theorem dX12_roadBetween_14 : decode cX12_roadBetween 14 = .ok (.aload_n 0, 1) := by decide +kernel
theorem dX12_roadBetween_15 : decode cX12_roadBetween 15 = .ok (.iload 4, 2) := by decide +kernel
theorem dX12_roadBetween_17 : decode cX12_roadBetween 17 = .ok (.invokevirtual 334, 3) := by decide +kernel
theorem dX12_roadBetween_20 : decode cX12_roadBetween 20 = .ok (.ifCond .ne 40, 3) := by decide +kernel
theorem dX12_roadBetween_23 : decode cX12_roadBetween 23 = .ok (.aload_n 0, 1) := by decide +kernel
theorem dX12_roadBetween_24 : decode cX12_roadBetween 24 = .ok (.iload 4, 2) := by decide +kernel
theorem dX12_roadBetween_26 : decode cX12_roadBetween 26 = .ok (.iload_n 1, 1) := by decide +kernel
theorem dX12_roadBetween_27 : decode cX12_roadBetween 27 = .ok (.iload_n 2, 1) := by decide +kernel
theorem dX12_roadBetween_28 : decode cX12_roadBetween 28 = .ok (.invokevirtual 337, 3) := by decide +kernel
theorem dX12_roadBetween_31 : decode cX12_roadBetween 31 = .ok (.ifCond .eq 29, 3) := by decide +kernel
theorem dX12_roadBetween_34 : decode cX12_roadBetween 34 = .ok (.iload_n 3, 1) := by decide +kernel
theorem dX12_roadBetween_35 : decode cX12_roadBetween 35 = .ok (.iconst (-1), 1) := by decide +kernel
theorem dX12_roadBetween_36 : decode cX12_roadBetween 36 = .ok (.if_icmp .eq 19, 3) := by decide +kernel
theorem dX12_roadBetween_39 : decode cX12_roadBetween 39 = .ok (.aload_n 0, 1) := by decide +kernel
theorem dX12_roadBetween_40 : decode cX12_roadBetween 40 = .ok (.getfield 83, 3) := by decide +kernel
theorem dX12_roadBetween_43 : decode cX12_roadBetween 43 = .ok (.iload 4, 2) := by decide +kernel
theorem dX12_roadBetween_45 : decode cX12_roadBetween 45 = .ok (.iaload, 1) := by decide +kernel
theorem dX12_roadBetween_46 : decode cX12_roadBetween 46 = .ok (.aload_n 0, 1) := by decide +kernel
theorem dX12_roadBetween_47 : decode cX12_roadBetween 47 = .ok (.getfield 83, 3) := by decide +kernel
theorem dX12_roadBetween_50 : decode cX12_roadBetween 50 = .ok (.iload_n 3, 1) := by decide +kernel
theorem dX12_roadBetween_51 : decode cX12_roadBetween 51 = .ok (.iaload, 1) := by decide +kernel
theorem dX12_roadBetween_52 : decode cX12_roadBetween 52 = .ok (.if_icmp .ge 8, 3) := by decide +kernel
theorem dX12_roadBetween_55 : decode cX12_roadBetween 55 = .ok (.iload 4, 2) := by decide +kernel
theorem dX12_roadBetween_57 : decode cX12_roadBetween 57 = .ok (.goto 4, 3) := by decide +kernel
theorem dX12_roadBetween_60 : decode cX12_roadBetween 60 = .ok (.iload_n 3, 1) := by decide +kernel
theorem dX12_roadBetween_61 : decode cX12_roadBetween 61 = .ok (.istore_n 3, 1) := by decide +kernel
theorem dX12_roadBetween_62 : decode cX12_roadBetween 62 = .ok (.iinc 4 1, 3) := by decide +kernel
theorem dX12_roadBetween_65 : decode cX12_roadBetween 65 = .ok (.goto (-60), 3) := by decide +kernel
theorem dX12_roadBetween_68 : decode cX12_roadBetween 68 = .ok (.iload_n 3, 1) := by decide +kernel
theorem dX12_roadBetween_69 : decode cX12_roadBetween 69 = .ok (.ireturn, 1) := by decide +kernel
theorem dX12_nextIn_0 : decode cX12_nextIn 0 = .ok (.aload_n 0, 1) := by decide +kernel
theorem dX12_nextIn_1 : decode cX12_nextIn 1 = .ok (.getfield 64, 3) := by decide +kernel
theorem dX12_nextIn_4 : decode cX12_nextIn 4 = .ok (.bipush 12, 2) := by decide +kernel
theorem dX12_nextIn_6 : decode cX12_nextIn 6 = .ok (.aload_n 0, 1) := by decide +kernel
theorem dX12_nextIn_7 : decode cX12_nextIn 7 = .ok (.getfield 70, 3) := by decide +kernel
theorem dX12_nextIn_10 : decode cX12_nextIn 10 = .ok (.iconst 4, 1) := by decide +kernel
theorem dX12_nextIn_11 : decode cX12_nextIn 11 = .ok (.iload_n 1, 1) := by decide +kernel
theorem dX12_nextIn_12 : decode cX12_nextIn 12 = .ok (.iadd, 1) := by decide +kernel
theorem dX12_nextIn_13 : decode cX12_nextIn 13 = .ok (.iaload, 1) := by decide +kernel
theorem dX12_nextIn_14 : decode cX12_nextIn 14 = .ok (.imul, 1) := by decide +kernel
theorem dX12_nextIn_15 : decode cX12_nextIn 15 = .ok (.aload_n 0, 1) := by decide +kernel
theorem dX12_nextIn_16 : decode cX12_nextIn 16 = .ok (.getfield 70, 3) := by decide +kernel
theorem dX12_nextIn_19 : decode cX12_nextIn 19 = .ok (.bipush 8, 2) := by decide +kernel
theorem dX12_nextIn_21 : decode cX12_nextIn 21 = .ok (.iload_n 1, 1) := by decide +kernel
theorem dX12_nextIn_22 : decode cX12_nextIn 22 = .ok (.iadd, 1) := by decide +kernel
theorem dX12_nextIn_23 : decode cX12_nextIn 23 = .ok (.iaload, 1) := by decide +kernel
theorem dX12_nextIn_24 : decode cX12_nextIn 24 = .ok (.iadd, 1) := by decide +kernel
theorem dX12_nextIn_25 : decode cX12_nextIn 25 = .ok (.iaload, 1) := by decide +kernel
theorem dX12_nextIn_26 : decode cX12_nextIn 26 = .ok (.ireturn, 1) := by decide +kernel
theorem dX12_callAt_0 : decode cX12_callAt 0 = .ok (.aload_n 0, 1) := by decide +kernel
theorem dX12_callAt_1 : decode cX12_callAt 1 = .ok (.dup, 1) := by decide +kernel
theorem dX12_callAt_2 : decode cX12_callAt 2 = .ok (.getfield 340, 3) := by decide +kernel
theorem dX12_callAt_5 : decode cX12_callAt 5 = .ok (.iconst 1, 1) := by decide +kernel
theorem dX12_callAt_6 : decode cX12_callAt 6 = .ok (.iadd, 1) := by decide +kernel
theorem dX12_callAt_7 : decode cX12_callAt 7 = .ok (.putfield 340, 3) := by decide +kernel
theorem dX12_callAt_10 : decode cX12_callAt 10 = .ok (.aload_n 0, 1) := by decide +kernel
theorem dX12_callAt_11 : decode cX12_callAt 11 = .ok (.getfield 70, 3) := by decide +kernel
theorem dX12_callAt_14 : decode cX12_callAt 14 = .ok (.bipush 24, 2) := by decide +kernel
theorem dX12_callAt_16 : decode cX12_callAt 16 = .ok (.iload_n 1, 1) := by decide +kernel
theorem dX12_callAt_17 : decode cX12_callAt 17 = .ok (.iadd, 1) := by decide +kernel
theorem dX12_callAt_18 : decode cX12_callAt 18 = .ok (.sipush 999, 3) := by decide +kernel
theorem dX12_callAt_21 : decode cX12_callAt 21 = .ok (.aload_n 0, 1) := by decide +kernel
theorem dX12_callAt_22 : decode cX12_callAt 22 = .ok (.getfield 70, 3) := by decide +kernel
theorem dX12_callAt_25 : decode cX12_callAt 25 = .ok (.bipush 24, 2) := by decide +kernel
theorem dX12_callAt_27 : decode cX12_callAt 27 = .ok (.iload_n 1, 1) := by decide +kernel
theorem dX12_callAt_28 : decode cX12_callAt 28 = .ok (.iadd, 1) := by decide +kernel
theorem dX12_callAt_29 : decode cX12_callAt 29 = .ok (.iaload, 1) := by decide +kernel
theorem dX12_callAt_30 : decode cX12_callAt 30 = .ok (.iconst 1, 1) := by decide +kernel
theorem dX12_callAt_31 : decode cX12_callAt 31 = .ok (.iadd, 1) := by decide +kernel
theorem dX12_callAt_32 : decode cX12_callAt 32 = .ok (.invokestatic 327, 3) := by decide +kernel
theorem dX12_callAt_35 : decode cX12_callAt 35 = .ok (.iastore, 1) := by decide +kernel
theorem dX12_callAt_36 : decode cX12_callAt 36 = .ok (.aload_n 0, 1) := by decide +kernel
theorem dX12_callAt_37 : decode cX12_callAt 37 = .ok (.getfield 70, 3) := by decide +kernel
theorem dX12_callAt_40 : decode cX12_callAt 40 = .ok (.bipush 32, 2) := by decide +kernel
theorem dX12_callAt_42 : decode cX12_callAt 42 = .ok (.sipush 999, 3) := by decide +kernel
theorem dX12_callAt_45 : decode cX12_callAt 45 = .ok (.aload_n 0, 1) := by decide +kernel
theorem dX12_callAt_46 : decode cX12_callAt 46 = .ok (.getfield 70, 3) := by decide +kernel
theorem dX12_callAt_49 : decode cX12_callAt 49 = .ok (.bipush 32, 2) := by decide +kernel
theorem dX12_callAt_51 : decode cX12_callAt 51 = .ok (.iaload, 1) := by decide +kernel
theorem dX12_callAt_52 : decode cX12_callAt 52 = .ok (.aload_n 0, 1) := by decide +kernel
theorem dX12_callAt_53 : decode cX12_callAt 53 = .ok (.getfield 55, 3) := by decide +kernel
theorem dX12_callAt_56 : decode cX12_callAt 56 = .ok (.iload_n 1, 1) := by decide +kernel
theorem dX12_callAt_57 : decode cX12_callAt 57 = .ok (.iaload, 1) := by decide +kernel
theorem dX12_callAt_58 : decode cX12_callAt 58 = .ok (.ifCond .le 7, 3) := by decide +kernel
theorem dX12_callAt_61 : decode cX12_callAt 61 = .ok (.iconst 1, 1) := by decide +kernel
theorem dX12_callAt_62 : decode cX12_callAt 62 = .ok (.goto 4, 3) := by decide +kernel
theorem dX12_callAt_65 : decode cX12_callAt 65 = .ok (.iconst 0, 1) := by decide +kernel
theorem dX12_callAt_66 : decode cX12_callAt 66 = .ok (.iadd, 1) := by decide +kernel
theorem dX12_callAt_67 : decode cX12_callAt 67 = .ok (.invokestatic 327, 3) := by decide +kernel
theorem dX12_callAt_70 : decode cX12_callAt 70 = .ok (.iastore, 1) := by decide +kernel
theorem dX12_callAt_71 : decode cX12_callAt 71 = .ok (.return_, 1) := by decide +kernel
theorem dX12_goOn_0 : decode cX12_goOn 0 = .ok (.iconst 0, 1) := by decide +kernel
theorem dX12_goOn_1 : decode cX12_goOn 1 = .ok (.istore_n 2, 1) := by decide +kernel
theorem dX12_goOn_2 : decode cX12_goOn 2 = .ok (.aload_n 0, 1) := by decide +kernel
theorem dX12_goOn_3 : decode cX12_goOn 3 = .ok (.getfield 70, 3) := by decide +kernel
theorem dX12_goOn_6 : decode cX12_goOn 6 = .ok (.iconst 4, 1) := by decide +kernel
theorem dX12_goOn_7 : decode cX12_goOn 7 = .ok (.iload_n 1, 1) := by decide +kernel
theorem dX12_goOn_8 : decode cX12_goOn 8 = .ok (.iadd, 1) := by decide +kernel
theorem dX12_goOn_9 : decode cX12_goOn 9 = .ok (.iaload, 1) := by decide +kernel
theorem dX12_goOn_10 : decode cX12_goOn 10 = .ok (.iconst (-1), 1) := by decide +kernel
theorem dX12_goOn_11 : decode cX12_goOn 11 = .ok (.if_icmp .eq 7, 3) := by decide +kernel
theorem dX12_goOn_14 : decode cX12_goOn 14 = .ok (.iconst 1, 1) := by decide +kernel
theorem dX12_goOn_15 : decode cX12_goOn 15 = .ok (.goto 4, 3) := by decide +kernel
theorem dX12_goOn_18 : decode cX12_goOn 18 = .ok (.iconst 0, 1) := by decide +kernel
theorem dX12_goOn_19 : decode cX12_goOn 19 = .ok (.istore_n 3, 1) := by decide +kernel
theorem dX12_goOn_20 : decode cX12_goOn 20 = .ok (.iload_n 3, 1) := by decide +kernel
theorem dX12_goOn_21 : decode cX12_goOn 21 = .ok (.ifCond .eq 199, 3) := by decide +kernel
theorem dX12_goOn_24 : decode cX12_goOn 24 = .ok (.aload_n 0, 1) := by decide +kernel
theorem dX12_goOn_25 : decode cX12_goOn 25 = .ok (.iload_n 1, 1) := by decide +kernel
theorem dX12_goOn_26 : decode cX12_goOn 26 = .ok (.invokevirtual 343, 3) := by decide +kernel
theorem dX12_goOn_29 : decode cX12_goOn 29 = .ok (.istore 4, 2) := by decide +kernel
theorem dX12_goOn_31 : decode cX12_goOn 31 = .ok (.iload 4, 2) := by decide +kernel
theorem dX12_goOn_33 : decode cX12_goOn 33 = .ok (.aload_n 0, 1) := by decide +kernel
theorem dX12_goOn_34 : decode cX12_goOn 34 = .ok (.getfield 70, 3) := by decide +kernel
theorem dX12_goOn_37 : decode cX12_goOn 37 = .ok (.iconst 0, 1) := by decide +kernel
theorem dX12_goOn_38 : decode cX12_goOn 38 = .ok (.iload_n 1, 1) := by decide +kernel
theorem dX12_goOn_39 : decode cX12_goOn 39 = .ok (.iadd, 1) := by decide +kernel
theorem dX12_goOn_40 : decode cX12_goOn 40 = .ok (.iaload, 1) := by decide +kernel
theorem dX12_goOn_41 : decode cX12_goOn 41 = .ok (.if_icmp .ne 7, 3) := by decide +kernel
theorem dX12_goOn_44 : decode cX12_goOn 44 = .ok (.iconst (-1), 1) := by decide +kernel
theorem dX12_goOn_45 : decode cX12_goOn 45 = .ok (.goto 17, 3) := by decide +kernel
theorem dX12_goOn_48 : decode cX12_goOn 48 = .ok (.aload_n 0, 1) := by decide +kernel
theorem dX12_goOn_49 : decode cX12_goOn 49 = .ok (.aload_n 0, 1) := by decide +kernel
theorem dX12_goOn_50 : decode cX12_goOn 50 = .ok (.getfield 70, 3) := by decide +kernel
theorem dX12_goOn_53 : decode cX12_goOn 53 = .ok (.iconst 0, 1) := by decide +kernel
theorem dX12_goOn_54 : decode cX12_goOn 54 = .ok (.iload_n 1, 1) := by decide +kernel
theorem dX12_goOn_55 : decode cX12_goOn 55 = .ok (.iadd, 1) := by decide +kernel
theorem dX12_goOn_56 : decode cX12_goOn 56 = .ok (.iaload, 1) := by decide +kernel
theorem dX12_goOn_57 : decode cX12_goOn 57 = .ok (.iload 4, 2) := by decide +kernel
theorem dX12_goOn_59 : decode cX12_goOn 59 = .ok (.invokevirtual 346, 3) := by decide +kernel
theorem dX12_goOn_62 : decode cX12_goOn 62 = .ok (.istore 5, 2) := by decide +kernel
theorem dX12_goOn_64 : decode cX12_goOn 64 = .ok (.iload 4, 2) := by decide +kernel
theorem dX12_goOn_66 : decode cX12_goOn 66 = .ok (.aload_n 0, 1) := by decide +kernel
theorem dX12_goOn_67 : decode cX12_goOn 67 = .ok (.getfield 70, 3) := by decide +kernel
theorem dX12_goOn_70 : decode cX12_goOn 70 = .ok (.iconst 0, 1) := by decide +kernel
theorem dX12_goOn_71 : decode cX12_goOn 71 = .ok (.iload_n 1, 1) := by decide +kernel
theorem dX12_goOn_72 : decode cX12_goOn 72 = .ok (.iadd, 1) := by decide +kernel
theorem dX12_goOn_73 : decode cX12_goOn 73 = .ok (.iaload, 1) := by decide +kernel
theorem dX12_goOn_74 : decode cX12_goOn 74 = .ok (.if_icmp .eq 27, 3) := by decide +kernel
theorem dX12_goOn_77 : decode cX12_goOn 77 = .ok (.iload 5, 2) := by decide +kernel
theorem dX12_goOn_79 : decode cX12_goOn 79 = .ok (.iconst (-1), 1) := by decide +kernel
theorem dX12_goOn_80 : decode cX12_goOn 80 = .ok (.if_icmp .eq 25, 3) := by decide +kernel
theorem dX12_goOn_83 : decode cX12_goOn 83 = .ok (.iload_n 2, 1) := by decide +kernel
theorem dX12_goOn_84 : decode cX12_goOn 84 = .ok (.aload_n 0, 1) := by decide +kernel
theorem dX12_goOn_85 : decode cX12_goOn 85 = .ok (.getfield 83, 3) := by decide +kernel
theorem dX12_goOn_88 : decode cX12_goOn 88 = .ok (.iload 5, 2) := by decide +kernel
theorem dX12_goOn_90 : decode cX12_goOn 90 = .ok (.iaload, 1) := by decide +kernel
theorem dX12_goOn_91 : decode cX12_goOn 91 = .ok (.iadd, 1) := by decide +kernel
theorem dX12_goOn_92 : decode cX12_goOn 92 = .ok (.aload_n 0, 1) := by decide +kernel
theorem dX12_goOn_93 : decode cX12_goOn 93 = .ok (.getfield 52, 3) := by decide +kernel
theorem dX12_goOn_96 : decode cX12_goOn 96 = .ok (.iconst 0, 1) := by decide +kernel
theorem dX12_goOn_97 : decode cX12_goOn 97 = .ok (.iaload, 1) := by decide +kernel
theorem dX12_goOn_98 : decode cX12_goOn 98 = .ok (.if_icmp .gt 7, 3) := by decide +kernel
theorem dX12_goOn_101 : decode cX12_goOn 101 = .ok (.iconst 1, 1) := by decide +kernel
theorem dX12_goOn_102 : decode cX12_goOn 102 = .ok (.goto 4, 3) := by decide +kernel
theorem dX12_goOn_105 : decode cX12_goOn 105 = .ok (.iconst 0, 1) := by decide +kernel
theorem dX12_goOn_106 : decode cX12_goOn 106 = .ok (.istore_n 3, 1) := by decide +kernel
theorem dX12_goOn_107 : decode cX12_goOn 107 = .ok (.iload_n 3, 1) := by decide +kernel
theorem dX12_goOn_108 : decode cX12_goOn 108 = .ok (.ifCond .eq 109, 3) := by decide +kernel
theorem dX12_goOn_111 : decode cX12_goOn 111 = .ok (.iload_n 2, 1) := by decide +kernel
theorem dX12_goOn_112 : decode cX12_goOn 112 = .ok (.iload 5, 2) := by decide +kernel
theorem dX12_goOn_114 : decode cX12_goOn 114 = .ok (.iconst (-1), 1) := by decide +kernel
theorem dX12_goOn_115 : decode cX12_goOn 115 = .ok (.if_icmp .ne 7, 3) := by decide +kernel
theorem dX12_goOn_118 : decode cX12_goOn 118 = .ok (.iconst 0, 1) := by decide +kernel
theorem dX12_goOn_119 : decode cX12_goOn 119 = .ok (.goto 10, 3) := by decide +kernel
theorem dX12_goOn_122 : decode cX12_goOn 122 = .ok (.aload_n 0, 1) := by decide +kernel
theorem dX12_goOn_123 : decode cX12_goOn 123 = .ok (.getfield 83, 3) := by decide +kernel
theorem dX12_goOn_126 : decode cX12_goOn 126 = .ok (.iload 5, 2) := by decide +kernel
theorem dX12_goOn_128 : decode cX12_goOn 128 = .ok (.iaload, 1) := by decide +kernel
theorem dX12_goOn_129 : decode cX12_goOn 129 = .ok (.iadd, 1) := by decide +kernel
theorem dX12_goOn_130 : decode cX12_goOn 130 = .ok (.istore_n 2, 1) := by decide +kernel
theorem dX12_goOn_131 : decode cX12_goOn 131 = .ok (.iload 5, 2) := by decide +kernel
theorem dX12_goOn_133 : decode cX12_goOn 133 = .ok (.iconst (-1), 1) := by decide +kernel
theorem dX12_goOn_134 : decode cX12_goOn 134 = .ok (.if_icmp .eq 14, 3) := by decide +kernel
theorem dX12_goOn_137 : decode cX12_goOn 137 = .ok (.aload_n 0, 1) := by decide +kernel
theorem dX12_goOn_138 : decode cX12_goOn 138 = .ok (.getfield 86, 3) := by decide +kernel
theorem dX12_goOn_141 : decode cX12_goOn 141 = .ok (.iload 5, 2) := by decide +kernel
theorem dX12_goOn_143 : decode cX12_goOn 143 = .ok (.dup2, 1) := by decide +kernel
theorem dX12_goOn_144 : decode cX12_goOn 144 = .ok (.iaload, 1) := by decide +kernel
theorem dX12_goOn_145 : decode cX12_goOn 145 = .ok (.iconst 1, 1) := by decide +kernel
theorem dX12_goOn_146 : decode cX12_goOn 146 = .ok (.iadd, 1) := by decide +kernel
theorem dX12_goOn_147 : decode cX12_goOn 147 = .ok (.iastore, 1) := by decide +kernel
theorem dX12_goOn_148 : decode cX12_goOn 148 = .ok (.aload_n 0, 1) := by decide +kernel
theorem dX12_goOn_149 : decode cX12_goOn 149 = .ok (.getfield 70, 3) := by decide +kernel
theorem dX12_goOn_152 : decode cX12_goOn 152 = .ok (.iconst 0, 1) := by decide +kernel
theorem dX12_goOn_153 : decode cX12_goOn 153 = .ok (.iload_n 1, 1) := by decide +kernel
theorem dX12_goOn_154 : decode cX12_goOn 154 = .ok (.iadd, 1) := by decide +kernel
theorem dX12_goOn_155 : decode cX12_goOn 155 = .ok (.iload 4, 2) := by decide +kernel
theorem dX12_goOn_157 : decode cX12_goOn 157 = .ok (.iastore, 1) := by decide +kernel
theorem dX12_goOn_158 : decode cX12_goOn 158 = .ok (.aload_n 0, 1) := by decide +kernel
theorem dX12_goOn_159 : decode cX12_goOn 159 = .ok (.getfield 70, 3) := by decide +kernel
theorem dX12_goOn_162 : decode cX12_goOn 162 = .ok (.bipush 8, 2) := by decide +kernel
theorem dX12_goOn_164 : decode cX12_goOn 164 = .ok (.iload_n 1, 1) := by decide +kernel
theorem dX12_goOn_165 : decode cX12_goOn 165 = .ok (.iadd, 1) := by decide +kernel
theorem dX12_goOn_166 : decode cX12_goOn 166 = .ok (.dup2, 1) := by decide +kernel
theorem dX12_goOn_167 : decode cX12_goOn 167 = .ok (.iaload, 1) := by decide +kernel
theorem dX12_goOn_168 : decode cX12_goOn 168 = .ok (.iconst 1, 1) := by decide +kernel
theorem dX12_goOn_169 : decode cX12_goOn 169 = .ok (.iadd, 1) := by decide +kernel
theorem dX12_goOn_170 : decode cX12_goOn 170 = .ok (.iastore, 1) := by decide +kernel
theorem dX12_goOn_171 : decode cX12_goOn 171 = .ok (.aload_n 0, 1) := by decide +kernel
theorem dX12_goOn_172 : decode cX12_goOn 172 = .ok (.iload 4, 2) := by decide +kernel
theorem dX12_goOn_174 : decode cX12_goOn 174 = .ok (.invokevirtual 349, 3) := by decide +kernel
theorem dX12_goOn_177 : decode cX12_goOn 177 = .ok (.aload_n 0, 1) := by decide +kernel
theorem dX12_goOn_178 : decode cX12_goOn 178 = .ok (.getfield 70, 3) := by decide +kernel
theorem dX12_goOn_181 : decode cX12_goOn 181 = .ok (.bipush 8, 2) := by decide +kernel
theorem dX12_goOn_183 : decode cX12_goOn 183 = .ok (.iload_n 1, 1) := by decide +kernel
theorem dX12_goOn_184 : decode cX12_goOn 184 = .ok (.iadd, 1) := by decide +kernel
theorem dX12_goOn_185 : decode cX12_goOn 185 = .ok (.iaload, 1) := by decide +kernel
theorem dX12_goOn_186 : decode cX12_goOn 186 = .ok (.aload_n 0, 1) := by decide +kernel
theorem dX12_goOn_187 : decode cX12_goOn 187 = .ok (.getfield 67, 3) := by decide +kernel
theorem dX12_goOn_190 : decode cX12_goOn 190 = .ok (.aload_n 0, 1) := by decide +kernel
theorem dX12_goOn_191 : decode cX12_goOn 191 = .ok (.getfield 70, 3) := by decide +kernel
theorem dX12_goOn_194 : decode cX12_goOn 194 = .ok (.iconst 4, 1) := by decide +kernel
theorem dX12_goOn_195 : decode cX12_goOn 195 = .ok (.iload_n 1, 1) := by decide +kernel
theorem dX12_goOn_196 : decode cX12_goOn 196 = .ok (.iadd, 1) := by decide +kernel
theorem dX12_goOn_197 : decode cX12_goOn 197 = .ok (.iaload, 1) := by decide +kernel
theorem dX12_goOn_198 : decode cX12_goOn 198 = .ok (.iaload, 1) := by decide +kernel
theorem dX12_goOn_199 : decode cX12_goOn 199 = .ok (.if_icmp .ge 7, 3) := by decide +kernel
theorem dX12_goOn_202 : decode cX12_goOn 202 = .ok (.iconst 1, 1) := by decide +kernel
theorem dX12_goOn_203 : decode cX12_goOn 203 = .ok (.goto 4, 3) := by decide +kernel
theorem dX12_goOn_206 : decode cX12_goOn 206 = .ok (.iconst 0, 1) := by decide +kernel
theorem dX12_goOn_207 : decode cX12_goOn 207 = .ok (.istore_n 3, 1) := by decide +kernel
theorem dX12_goOn_208 : decode cX12_goOn 208 = .ok (.iload_n 3, 1) := by decide +kernel
theorem dX12_goOn_209 : decode cX12_goOn 209 = .ok (.ifCond .ne 8, 3) := by decide +kernel
theorem dX12_goOn_212 : decode cX12_goOn 212 = .ok (.aload_n 0, 1) := by decide +kernel
theorem dX12_goOn_213 : decode cX12_goOn 213 = .ok (.iload_n 1, 1) := by decide +kernel
theorem dX12_goOn_214 : decode cX12_goOn 214 = .ok (.invokevirtual 352, 3) := by decide +kernel
theorem dX12_goOn_217 : decode cX12_goOn 217 = .ok (.goto (-197), 3) := by decide +kernel
theorem dX12_goOn_220 : decode cX12_goOn 220 = .ok (.return_, 1) := by decide +kernel
theorem dX12_dropWay_0 : decode cX12_dropWay 0 = .ok (.aload_n 0, 1) := by decide +kernel
theorem dX12_dropWay_1 : decode cX12_dropWay 1 = .ok (.getfield 70, 3) := by decide +kernel
theorem dX12_dropWay_4 : decode cX12_dropWay 4 = .ok (.iconst 4, 1) := by decide +kernel
theorem dX12_dropWay_5 : decode cX12_dropWay 5 = .ok (.iload_n 1, 1) := by decide +kernel
theorem dX12_dropWay_6 : decode cX12_dropWay 6 = .ok (.iadd, 1) := by decide +kernel
theorem dX12_dropWay_7 : decode cX12_dropWay 7 = .ok (.iconst (-1), 1) := by decide +kernel
theorem dX12_dropWay_8 : decode cX12_dropWay 8 = .ok (.iastore, 1) := by decide +kernel
theorem dX12_dropWay_9 : decode cX12_dropWay 9 = .ok (.aload_n 0, 1) := by decide +kernel
theorem dX12_dropWay_10 : decode cX12_dropWay 10 = .ok (.getfield 70, 3) := by decide +kernel
theorem dX12_dropWay_13 : decode cX12_dropWay 13 = .ok (.bipush 8, 2) := by decide +kernel
theorem dX12_dropWay_15 : decode cX12_dropWay 15 = .ok (.iload_n 1, 1) := by decide +kernel
theorem dX12_dropWay_16 : decode cX12_dropWay 16 = .ok (.iadd, 1) := by decide +kernel
theorem dX12_dropWay_17 : decode cX12_dropWay 17 = .ok (.iconst 0, 1) := by decide +kernel
theorem dX12_dropWay_18 : decode cX12_dropWay 18 = .ok (.iastore, 1) := by decide +kernel
theorem dX12_dropWay_19 : decode cX12_dropWay 19 = .ok (.return_, 1) := by decide +kernel
theorem dX12_live_0 : decode cX12_live 0 = .ok (.aload_n 0, 1) := by decide +kernel
theorem dX12_live_1 : decode cX12_live 1 = .ok (.invokevirtual 355, 3) := by decide +kernel
theorem dX12_live_4 : decode cX12_live 4 = .ok (.aload_n 0, 1) := by decide +kernel
theorem dX12_live_5 : decode cX12_live 5 = .ok (.iconst 0, 1) := by decide +kernel
theorem dX12_live_6 : decode cX12_live 6 = .ok (.putfield 340, 3) := by decide +kernel
theorem dX12_live_9 : decode cX12_live 9 = .ok (.iconst 0, 1) := by decide +kernel
theorem dX12_live_10 : decode cX12_live 10 = .ok (.istore_n 1, 1) := by decide +kernel
theorem dX12_live_11 : decode cX12_live 11 = .ok (.iload_n 1, 1) := by decide +kernel
theorem dX12_live_12 : decode cX12_live 12 = .ok (.bipush 12, 2) := by decide +kernel
theorem dX12_live_14 : decode cX12_live 14 = .ok (.if_icmp .ge 16, 3) := by decide +kernel
theorem dX12_live_17 : decode cX12_live 17 = .ok (.aload_n 0, 1) := by decide +kernel
theorem dX12_live_18 : decode cX12_live 18 = .ok (.getfield 86, 3) := by decide +kernel
theorem dX12_live_21 : decode cX12_live 21 = .ok (.iload_n 1, 1) := by decide +kernel
theorem dX12_live_22 : decode cX12_live 22 = .ok (.iconst 0, 1) := by decide +kernel
theorem dX12_live_23 : decode cX12_live 23 = .ok (.iastore, 1) := by decide +kernel
theorem dX12_live_24 : decode cX12_live 24 = .ok (.iinc 1 1, 3) := by decide +kernel
theorem dX12_live_27 : decode cX12_live 27 = .ok (.goto (-16), 3) := by decide +kernel
theorem dX12_live_30 : decode cX12_live 30 = .ok (.iconst 0, 1) := by decide +kernel
theorem dX12_live_31 : decode cX12_live 31 = .ok (.istore_n 1, 1) := by decide +kernel
theorem dX12_live_32 : decode cX12_live 32 = .ok (.iload_n 1, 1) := by decide +kernel
theorem dX12_live_33 : decode cX12_live 33 = .ok (.aload_n 0, 1) := by decide +kernel
theorem dX12_live_34 : decode cX12_live 34 = .ok (.getfield 285, 3) := by decide +kernel
theorem dX12_live_37 : decode cX12_live 37 = .ok (.if_icmp .ge 14, 3) := by decide +kernel
theorem dX12_live_40 : decode cX12_live 40 = .ok (.aload_n 0, 1) := by decide +kernel
theorem dX12_live_41 : decode cX12_live 41 = .ok (.iload_n 1, 1) := by decide +kernel
theorem dX12_live_42 : decode cX12_live 42 = .ok (.invokevirtual 358, 3) := by decide +kernel
theorem dX12_live_45 : decode cX12_live 45 = .ok (.iinc 1 1, 3) := by decide +kernel
theorem dX12_live_48 : decode cX12_live 48 = .ok (.goto (-16), 3) := by decide +kernel
theorem dX12_live_51 : decode cX12_live 51 = .ok (.iconst 0, 1) := by decide +kernel
theorem dX12_live_52 : decode cX12_live 52 = .ok (.istore_n 1, 1) := by decide +kernel
theorem dX12_live_53 : decode cX12_live 53 = .ok (.iload_n 1, 1) := by decide +kernel
theorem dX12_live_54 : decode cX12_live 54 = .ok (.aload_n 0, 1) := by decide +kernel
theorem dX12_live_55 : decode cX12_live 55 = .ok (.getfield 291, 3) := by decide +kernel
theorem dX12_live_58 : decode cX12_live 58 = .ok (.if_icmp .ge 40, 3) := by decide +kernel
theorem dX12_live_61 : decode cX12_live 61 = .ok (.aload_n 0, 1) := by decide +kernel
theorem dX12_live_62 : decode cX12_live 62 = .ok (.getfield 70, 3) := by decide +kernel
theorem dX12_live_65 : decode cX12_live 65 = .ok (.bipush 12, 2) := by decide +kernel
theorem dX12_live_67 : decode cX12_live 67 = .ok (.iload_n 1, 1) := by decide +kernel
theorem dX12_live_68 : decode cX12_live 68 = .ok (.iadd, 1) := by decide +kernel
theorem dX12_live_69 : decode cX12_live 69 = .ok (.sipush 999, 3) := by decide +kernel
theorem dX12_live_72 : decode cX12_live 72 = .ok (.aload_n 0, 1) := by decide +kernel
theorem dX12_live_73 : decode cX12_live 73 = .ok (.getfield 70, 3) := by decide +kernel
theorem dX12_live_76 : decode cX12_live 76 = .ok (.bipush 12, 2) := by decide +kernel
theorem dX12_live_78 : decode cX12_live 78 = .ok (.iload_n 1, 1) := by decide +kernel
theorem dX12_live_79 : decode cX12_live 79 = .ok (.iadd, 1) := by decide +kernel
theorem dX12_live_80 : decode cX12_live 80 = .ok (.iaload, 1) := by decide +kernel
theorem dX12_live_81 : decode cX12_live 81 = .ok (.aload_n 0, 1) := by decide +kernel
theorem dX12_live_82 : decode cX12_live 82 = .ok (.getfield 86, 3) := by decide +kernel
theorem dX12_live_85 : decode cX12_live 85 = .ok (.iload_n 1, 1) := by decide +kernel
theorem dX12_live_86 : decode cX12_live 86 = .ok (.iaload, 1) := by decide +kernel
theorem dX12_live_87 : decode cX12_live 87 = .ok (.iadd, 1) := by decide +kernel
theorem dX12_live_88 : decode cX12_live 88 = .ok (.invokestatic 327, 3) := by decide +kernel
theorem dX12_live_91 : decode cX12_live 91 = .ok (.iastore, 1) := by decide +kernel
theorem dX12_live_92 : decode cX12_live 92 = .ok (.iinc 1 1, 3) := by decide +kernel
theorem dX12_live_95 : decode cX12_live 95 = .ok (.goto (-42), 3) := by decide +kernel
theorem dX12_live_98 : decode cX12_live 98 = .ok (.aload_n 0, 1) := by decide +kernel
theorem dX12_live_99 : decode cX12_live 99 = .ok (.getfield 70, 3) := by decide +kernel
theorem dX12_live_102 : decode cX12_live 102 = .ok (.bipush 33, 2) := by decide +kernel
theorem dX12_live_104 : decode cX12_live 104 = .ok (.dup2, 1) := by decide +kernel
theorem dX12_live_105 : decode cX12_live 105 = .ok (.iaload, 1) := by decide +kernel
theorem dX12_live_106 : decode cX12_live 106 = .ok (.iconst 1, 1) := by decide +kernel
theorem dX12_live_107 : decode cX12_live 107 = .ok (.iadd, 1) := by decide +kernel
theorem dX12_live_108 : decode cX12_live 108 = .ok (.iastore, 1) := by decide +kernel
theorem dX12_live_109 : decode cX12_live 109 = .ok (.return_, 1) := by decide +kernel
theorem dX12_onWay_0 : decode cX12_onWay 0 = .ok (.iconst 0, 1) := by decide +kernel
theorem dX12_onWay_1 : decode cX12_onWay 1 = .ok (.istore_n 1, 1) := by decide +kernel
theorem dX12_onWay_2 : decode cX12_onWay 2 = .ok (.iconst 0, 1) := by decide +kernel
theorem dX12_onWay_3 : decode cX12_onWay 3 = .ok (.istore_n 2, 1) := by decide +kernel
theorem dX12_onWay_4 : decode cX12_onWay 4 = .ok (.iload_n 2, 1) := by decide +kernel
theorem dX12_onWay_5 : decode cX12_onWay 5 = .ok (.aload_n 0, 1) := by decide +kernel
theorem dX12_onWay_6 : decode cX12_onWay 6 = .ok (.getfield 285, 3) := by decide +kernel
theorem dX12_onWay_9 : decode cX12_onWay 9 = .ok (.if_icmp .ge 31, 3) := by decide +kernel
theorem dX12_onWay_12 : decode cX12_onWay 12 = .ok (.iload_n 1, 1) := by decide +kernel
theorem dX12_onWay_13 : decode cX12_onWay 13 = .ok (.aload_n 0, 1) := by decide +kernel
theorem dX12_onWay_14 : decode cX12_onWay 14 = .ok (.getfield 70, 3) := by decide +kernel
theorem dX12_onWay_17 : decode cX12_onWay 17 = .ok (.iconst 4, 1) := by decide +kernel
theorem dX12_onWay_18 : decode cX12_onWay 18 = .ok (.iload_n 2, 1) := by decide +kernel
theorem dX12_onWay_19 : decode cX12_onWay 19 = .ok (.iadd, 1) := by decide +kernel
theorem dX12_onWay_20 : decode cX12_onWay 20 = .ok (.iaload, 1) := by decide +kernel
theorem dX12_onWay_21 : decode cX12_onWay 21 = .ok (.iconst (-1), 1) := by decide +kernel
theorem dX12_onWay_22 : decode cX12_onWay 22 = .ok (.if_icmp .eq 9, 3) := by decide +kernel
theorem dX12_onWay_25 : decode cX12_onWay 25 = .ok (.iconst 1, 1) := by decide +kernel
theorem dX12_onWay_26 : decode cX12_onWay 26 = .ok (.iload_n 2, 1) := by decide +kernel
theorem dX12_onWay_27 : decode cX12_onWay 27 = .ok (.ishl, 1) := by decide +kernel
theorem dX12_onWay_28 : decode cX12_onWay 28 = .ok (.goto 4, 3) := by decide +kernel
theorem dX12_onWay_31 : decode cX12_onWay 31 = .ok (.iconst 0, 1) := by decide +kernel
theorem dX12_onWay_32 : decode cX12_onWay 32 = .ok (.ior, 1) := by decide +kernel
theorem dX12_onWay_33 : decode cX12_onWay 33 = .ok (.istore_n 1, 1) := by decide +kernel
theorem dX12_onWay_34 : decode cX12_onWay 34 = .ok (.iinc 2 1, 3) := by decide +kernel
theorem dX12_onWay_37 : decode cX12_onWay 37 = .ok (.goto (-33), 3) := by decide +kernel
theorem dX12_onWay_40 : decode cX12_onWay 40 = .ok (.iload_n 1, 1) := by decide +kernel
theorem dX12_onWay_41 : decode cX12_onWay 41 = .ok (.ireturn, 1) := by decide +kernel
theorem dX12_passDay_0 : decode cX12_passDay 0 = .ok (.aload_n 0, 1) := by decide +kernel
theorem dX12_passDay_1 : decode cX12_passDay 1 = .ok (.invokevirtual 361, 3) := by decide +kernel
theorem dX12_passDay_4 : decode cX12_passDay 4 = .ok (.aload_n 0, 1) := by decide +kernel
theorem dX12_passDay_5 : decode cX12_passDay 5 = .ok (.getfield 70, 3) := by decide +kernel
theorem dX12_passDay_8 : decode cX12_passDay 8 = .ok (.bipush 34, 2) := by decide +kernel
theorem dX12_passDay_10 : decode cX12_passDay 10 = .ok (.iaload, 1) := by decide +kernel
theorem dX12_passDay_11 : decode cX12_passDay 11 = .ok (.bipush 60, 2) := by decide +kernel
theorem dX12_passDay_13 : decode cX12_passDay 13 = .ok (.if_icmp .ne 49, 3) := by decide +kernel
theorem dX12_passDay_16 : decode cX12_passDay 16 = .ok (.iconst 3, 1) := by decide +kernel
theorem dX12_passDay_17 : decode cX12_passDay 17 = .ok (.istore_n 1, 1) := by decide +kernel
theorem dX12_passDay_18 : decode cX12_passDay 18 = .ok (.iload_n 1, 1) := by decide +kernel
theorem dX12_passDay_19 : decode cX12_passDay 19 = .ok (.sipush 180, 3) := by decide +kernel
theorem dX12_passDay_22 : decode cX12_passDay 22 = .ok (.if_icmp .ge 29, 3) := by decide +kernel
theorem dX12_passDay_25 : decode cX12_passDay 25 = .ok (.aload_n 0, 1) := by decide +kernel
theorem dX12_passDay_26 : decode cX12_passDay 26 = .ok (.getfield 70, 3) := by decide +kernel
theorem dX12_passDay_29 : decode cX12_passDay 29 = .ok (.bipush 35, 2) := by decide +kernel
theorem dX12_passDay_31 : decode cX12_passDay 31 = .ok (.iload_n 1, 1) := by decide +kernel
theorem dX12_passDay_32 : decode cX12_passDay 32 = .ok (.iadd, 1) := by decide +kernel
theorem dX12_passDay_33 : decode cX12_passDay 33 = .ok (.iconst 3, 1) := by decide +kernel
theorem dX12_passDay_34 : decode cX12_passDay 34 = .ok (.isub, 1) := by decide +kernel
theorem dX12_passDay_35 : decode cX12_passDay 35 = .ok (.aload_n 0, 1) := by decide +kernel
theorem dX12_passDay_36 : decode cX12_passDay 36 = .ok (.getfield 70, 3) := by decide +kernel
theorem dX12_passDay_39 : decode cX12_passDay 39 = .ok (.bipush 35, 2) := by decide +kernel
theorem dX12_passDay_41 : decode cX12_passDay 41 = .ok (.iload_n 1, 1) := by decide +kernel
theorem dX12_passDay_42 : decode cX12_passDay 42 = .ok (.iadd, 1) := by decide +kernel
theorem dX12_passDay_43 : decode cX12_passDay 43 = .ok (.iaload, 1) := by decide +kernel
theorem dX12_passDay_44 : decode cX12_passDay 44 = .ok (.iastore, 1) := by decide +kernel
theorem dX12_passDay_45 : decode cX12_passDay 45 = .ok (.iinc 1 1, 3) := by decide +kernel
theorem dX12_passDay_48 : decode cX12_passDay 48 = .ok (.goto (-30), 3) := by decide +kernel
theorem dX12_passDay_51 : decode cX12_passDay 51 = .ok (.aload_n 0, 1) := by decide +kernel
theorem dX12_passDay_52 : decode cX12_passDay 52 = .ok (.getfield 70, 3) := by decide +kernel
theorem dX12_passDay_55 : decode cX12_passDay 55 = .ok (.bipush 34, 2) := by decide +kernel
theorem dX12_passDay_57 : decode cX12_passDay 57 = .ok (.dup2, 1) := by decide +kernel
theorem dX12_passDay_58 : decode cX12_passDay 58 = .ok (.iaload, 1) := by decide +kernel
theorem dX12_passDay_59 : decode cX12_passDay 59 = .ok (.iconst 1, 1) := by decide +kernel
theorem dX12_passDay_60 : decode cX12_passDay 60 = .ok (.isub, 1) := by decide +kernel
theorem dX12_passDay_61 : decode cX12_passDay 61 = .ok (.iastore, 1) := by decide +kernel
theorem dX12_passDay_62 : decode cX12_passDay 62 = .ok (.bipush 35, 2) := by decide +kernel
theorem dX12_passDay_64 : decode cX12_passDay 64 = .ok (.iconst 3, 1) := by decide +kernel
theorem dX12_passDay_65 : decode cX12_passDay 65 = .ok (.aload_n 0, 1) := by decide +kernel
theorem dX12_passDay_66 : decode cX12_passDay 66 = .ok (.getfield 70, 3) := by decide +kernel
theorem dX12_passDay_69 : decode cX12_passDay 69 = .ok (.bipush 34, 2) := by decide +kernel
theorem dX12_passDay_71 : decode cX12_passDay 71 = .ok (.iaload, 1) := by decide +kernel
theorem dX12_passDay_72 : decode cX12_passDay 72 = .ok (.imul, 1) := by decide +kernel
theorem dX12_passDay_73 : decode cX12_passDay 73 = .ok (.iadd, 1) := by decide +kernel
theorem dX12_passDay_74 : decode cX12_passDay 74 = .ok (.istore_n 1, 1) := by decide +kernel
theorem dX12_passDay_75 : decode cX12_passDay 75 = .ok (.aload_n 0, 1) := by decide +kernel
theorem dX12_passDay_76 : decode cX12_passDay 76 = .ok (.getfield 70, 3) := by decide +kernel
theorem dX12_passDay_79 : decode cX12_passDay 79 = .ok (.iload_n 1, 1) := by decide +kernel
theorem dX12_passDay_80 : decode cX12_passDay 80 = .ok (.aload_n 0, 1) := by decide +kernel
theorem dX12_passDay_81 : decode cX12_passDay 81 = .ok (.getfield 340, 3) := by decide +kernel
theorem dX12_passDay_84 : decode cX12_passDay 84 = .ok (.iastore, 1) := by decide +kernel
theorem dX12_passDay_85 : decode cX12_passDay 85 = .ok (.aload_n 0, 1) := by decide +kernel
theorem dX12_passDay_86 : decode cX12_passDay 86 = .ok (.getfield 70, 3) := by decide +kernel
theorem dX12_passDay_89 : decode cX12_passDay 89 = .ok (.iload_n 1, 1) := by decide +kernel
theorem dX12_passDay_90 : decode cX12_passDay 90 = .ok (.iconst 1, 1) := by decide +kernel
theorem dX12_passDay_91 : decode cX12_passDay 91 = .ok (.iadd, 1) := by decide +kernel
theorem dX12_passDay_92 : decode cX12_passDay 92 = .ok (.aload_n 0, 1) := by decide +kernel
theorem dX12_passDay_93 : decode cX12_passDay 93 = .ok (.invokevirtual 364, 3) := by decide +kernel
theorem dX12_passDay_96 : decode cX12_passDay 96 = .ok (.iastore, 1) := by decide +kernel
theorem dX12_passDay_97 : decode cX12_passDay 97 = .ok (.aload_n 0, 1) := by decide +kernel
theorem dX12_passDay_98 : decode cX12_passDay 98 = .ok (.getfield 70, 3) := by decide +kernel
theorem dX12_passDay_101 : decode cX12_passDay 101 = .ok (.iload_n 1, 1) := by decide +kernel
theorem dX12_passDay_102 : decode cX12_passDay 102 = .ok (.iconst 2, 1) := by decide +kernel
theorem dX12_passDay_103 : decode cX12_passDay 103 = .ok (.iadd, 1) := by decide +kernel
theorem dX12_passDay_104 : decode cX12_passDay 104 = .ok (.aload_n 0, 1) := by decide +kernel
theorem dX12_passDay_105 : decode cX12_passDay 105 = .ok (.getfield 70, 3) := by decide +kernel
theorem dX12_passDay_108 : decode cX12_passDay 108 = .ok (.bipush 31, 2) := by decide +kernel
theorem dX12_passDay_110 : decode cX12_passDay 110 = .ok (.iaload, 1) := by decide +kernel
theorem dX12_passDay_111 : decode cX12_passDay 111 = .ok (.iastore, 1) := by decide +kernel
theorem dX12_passDay_112 : decode cX12_passDay 112 = .ok (.aload_n 0, 1) := by decide +kernel
theorem dX12_passDay_113 : decode cX12_passDay 113 = .ok (.getfield 70, 3) := by decide +kernel
theorem dX12_passDay_116 : decode cX12_passDay 116 = .ok (.bipush 34, 2) := by decide +kernel
theorem dX12_passDay_118 : decode cX12_passDay 118 = .ok (.dup2, 1) := by decide +kernel
theorem dX12_passDay_119 : decode cX12_passDay 119 = .ok (.iaload, 1) := by decide +kernel
theorem dX12_passDay_120 : decode cX12_passDay 120 = .ok (.iconst 1, 1) := by decide +kernel
theorem dX12_passDay_121 : decode cX12_passDay 121 = .ok (.iadd, 1) := by decide +kernel
theorem dX12_passDay_122 : decode cX12_passDay 122 = .ok (.iastore, 1) := by decide +kernel
theorem dX12_passDay_123 : decode cX12_passDay 123 = .ok (.return_, 1) := by decide +kernel
theorem dX12_rule_0 : decode cX12_rule 0 = .ok (.aload_n 0, 1) := by decide +kernel
theorem dX12_rule_1 : decode cX12_rule 1 = .ok (.getfield 288, 3) := by decide +kernel
theorem dX12_rule_4 : decode cX12_rule 4 = .ok (.ifCond .eq 12, 3) := by decide +kernel
theorem dX12_rule_7 : decode cX12_rule 7 = .ok (.iload_n 1, 1) := by decide +kernel
theorem dX12_rule_8 : decode cX12_rule 8 = .ok (.iconst 0, 1) := by decide +kernel
theorem dX12_rule_9 : decode cX12_rule 9 = .ok (.iconst 1, 1) := by decide +kernel
theorem dX12_rule_10 : decode cX12_rule 10 = .ok (.invokestatic 235, 3) := by decide +kernel
theorem dX12_rule_13 : decode cX12_rule 13 = .ok (.ifCond .ne 7, 3) := by decide +kernel
theorem dX12_rule_16 : decode cX12_rule 16 = .ok (.iconst (-1), 1) := by decide +kernel
theorem dX12_rule_17 : decode cX12_rule 17 = .ok (.goto 23, 3) := by decide +kernel
theorem dX12_rule_20 : decode cX12_rule 20 = .ok (.iload_n 1, 1) := by decide +kernel
theorem dX12_rule_21 : decode cX12_rule 21 = .ok (.ifCond .ne 12, 3) := by decide +kernel
theorem dX12_rule_24 : decode cX12_rule 24 = .ok (.aload_n 0, 1) := by decide +kernel
theorem dX12_rule_25 : decode cX12_rule 25 = .ok (.getfield 52, 3) := by decide +kernel
theorem dX12_rule_28 : decode cX12_rule 28 = .ok (.iconst 0, 1) := by decide +kernel
theorem dX12_rule_29 : decode cX12_rule 29 = .ok (.iaload, 1) := by decide +kernel
theorem dX12_rule_30 : decode cX12_rule 30 = .ok (.goto 10, 3) := by decide +kernel
theorem dX12_rule_33 : decode cX12_rule 33 = .ok (.aload_n 0, 1) := by decide +kernel
theorem dX12_rule_34 : decode cX12_rule 34 = .ok (.getfield 70, 3) := by decide +kernel
theorem dX12_rule_37 : decode cX12_rule 37 = .ok (.bipush 32, 2) := by decide +kernel
theorem dX12_rule_39 : decode cX12_rule 39 = .ok (.iaload, 1) := by decide +kernel
theorem dX12_rule_40 : decode cX12_rule 40 = .ok (.ireturn, 1) := by decide +kernel
theorem dX12_road_0 : decode cX12_road 0 = .ok (.aload_n 0, 1) := by decide +kernel
theorem dX12_road_1 : decode cX12_road 1 = .ok (.iload_n 1, 1) := by decide +kernel
theorem dX12_road_2 : decode cX12_road 2 = .ok (.invokevirtual 367, 3) := by decide +kernel
theorem dX12_road_5 : decode cX12_road 5 = .ok (.ifCond .eq 13, 3) := by decide +kernel
theorem dX12_road_8 : decode cX12_road 8 = .ok (.iload_n 2, 1) := by decide +kernel
theorem dX12_road_9 : decode cX12_road 9 = .ok (.iconst 0, 1) := by decide +kernel
theorem dX12_road_10 : decode cX12_road 10 = .ok (.bipush 6, 2) := by decide +kernel
theorem dX12_road_12 : decode cX12_road 12 = .ok (.invokestatic 235, 3) := by decide +kernel
theorem dX12_road_15 : decode cX12_road 15 = .ok (.ifCond .ne 5, 3) := by decide +kernel
theorem dX12_road_18 : decode cX12_road 18 = .ok (.iconst (-1), 1) := by decide +kernel
theorem dX12_road_19 : decode cX12_road 19 = .ok (.ireturn, 1) := by decide +kernel
theorem dX12_road_20 : decode cX12_road 20 = .ok (.iload_n 2, 1) := by decide +kernel
theorem dX12_road_21 : decode cX12_road 21 = .ok (.tableswitch 57 4 6 #[27, 33, 43], 27) := by decide +kernel
theorem dX12_road_48 : decode cX12_road 48 = .ok (.aload_n 0, 1) := by decide +kernel
theorem dX12_road_49 : decode cX12_road 49 = .ok (.iload_n 1, 1) := by decide +kernel
theorem dX12_road_50 : decode cX12_road 50 = .ok (.invokevirtual 331, 3) := by decide +kernel
theorem dX12_road_53 : decode cX12_road 53 = .ok (.ireturn, 1) := by decide +kernel
theorem dX12_road_54 : decode cX12_road 54 = .ok (.aload_n 0, 1) := by decide +kernel
theorem dX12_road_55 : decode cX12_road 55 = .ok (.getfield 70, 3) := by decide +kernel
theorem dX12_road_58 : decode cX12_road 58 = .ok (.bipush 12, 2) := by decide +kernel
theorem dX12_road_60 : decode cX12_road 60 = .ok (.iload_n 1, 1) := by decide +kernel
theorem dX12_road_61 : decode cX12_road 61 = .ok (.iadd, 1) := by decide +kernel
theorem dX12_road_62 : decode cX12_road 62 = .ok (.iaload, 1) := by decide +kernel
theorem dX12_road_63 : decode cX12_road 63 = .ok (.ireturn, 1) := by decide +kernel
theorem dX12_road_64 : decode cX12_road 64 = .ok (.aload_n 0, 1) := by decide +kernel
theorem dX12_road_65 : decode cX12_road 65 = .ok (.iload_n 1, 1) := by decide +kernel
theorem dX12_road_66 : decode cX12_road 66 = .ok (.invokevirtual 334, 3) := by decide +kernel
theorem dX12_road_69 : decode cX12_road 69 = .ok (.ifCond .eq 7, 3) := by decide +kernel
theorem dX12_road_72 : decode cX12_road 72 = .ok (.iconst 1, 1) := by decide +kernel
theorem dX12_road_73 : decode cX12_road 73 = .ok (.goto 4, 3) := by decide +kernel
theorem dX12_road_76 : decode cX12_road 76 = .ok (.iconst 0, 1) := by decide +kernel
theorem dX12_road_77 : decode cX12_road 77 = .ok (.ireturn, 1) := by decide +kernel
theorem dX12_road_78 : decode cX12_road 78 = .ok (.aload_n 0, 1) := by decide +kernel
theorem dX12_road_79 : decode cX12_road 79 = .ok (.iload_n 1, 1) := by decide +kernel
theorem dX12_road_80 : decode cX12_road 80 = .ok (.iload_n 2, 1) := by decide +kernel
theorem dX12_road_81 : decode cX12_road 81 = .ok (.invokevirtual 316, 3) := by decide +kernel
theorem dX12_road_84 : decode cX12_road 84 = .ok (.ireturn, 1) := by decide +kernel
theorem dX12_wheels_0 : decode cX12_wheels 0 = .ok (.aload_n 0, 1) := by decide +kernel
theorem dX12_wheels_1 : decode cX12_wheels 1 = .ok (.aload_n 0, 1) := by decide +kernel
theorem dX12_wheels_2 : decode cX12_wheels 2 = .ok (.iload_n 1, 1) := by decide +kernel
theorem dX12_wheels_3 : decode cX12_wheels 3 = .ok (.invokevirtual 370, 3) := by decide +kernel
theorem dX12_wheels_6 : decode cX12_wheels 6 = .ok (.ifCond .eq 16, 3) := by decide +kernel
theorem dX12_wheels_9 : decode cX12_wheels 9 = .ok (.iload_n 2, 1) := by decide +kernel
theorem dX12_wheels_10 : decode cX12_wheels 10 = .ok (.iconst 0, 1) := by decide +kernel
theorem dX12_wheels_11 : decode cX12_wheels 11 = .ok (.iconst 2, 1) := by decide +kernel
theorem dX12_wheels_12 : decode cX12_wheels 12 = .ok (.invokestatic 235, 3) := by decide +kernel
theorem dX12_wheels_15 : decode cX12_wheels 15 = .ok (.ifCond .eq 7, 3) := by decide +kernel
theorem dX12_wheels_18 : decode cX12_wheels 18 = .ok (.iconst 0, 1) := by decide +kernel
theorem dX12_wheels_19 : decode cX12_wheels 19 = .ok (.goto 4, 3) := by decide +kernel
theorem dX12_wheels_22 : decode cX12_wheels 22 = .ok (.iconst 1, 1) := by decide +kernel
theorem dX12_wheels_23 : decode cX12_wheels 23 = .ok (.putfield 120, 3) := by decide +kernel
theorem dX12_wheels_26 : decode cX12_wheels 26 = .ok (.aload_n 0, 1) := by decide +kernel
theorem dX12_wheels_27 : decode cX12_wheels 27 = .ok (.getfield 120, 3) := by decide +kernel
theorem dX12_wheels_30 : decode cX12_wheels 30 = .ok (.iconst 1, 1) := by decide +kernel
theorem dX12_wheels_31 : decode cX12_wheels 31 = .ok (.if_icmp .ne 7, 3) := by decide +kernel
theorem dX12_wheels_34 : decode cX12_wheels 34 = .ok (.iconst 0, 1) := by decide +kernel
theorem dX12_wheels_35 : decode cX12_wheels 35 = .ok (.goto 13, 3) := by decide +kernel
theorem dX12_wheels_38 : decode cX12_wheels 38 = .ok (.aload_n 0, 1) := by decide +kernel
theorem dX12_wheels_39 : decode cX12_wheels 39 = .ok (.getfield 70, 3) := by decide +kernel
theorem dX12_wheels_42 : decode cX12_wheels 42 = .ok (.iconst 4, 1) := by decide +kernel
theorem dX12_wheels_43 : decode cX12_wheels 43 = .ok (.iload_n 2, 1) := by decide +kernel
theorem dX12_wheels_44 : decode cX12_wheels 44 = .ok (.imul, 1) := by decide +kernel
theorem dX12_wheels_45 : decode cX12_wheels 45 = .ok (.iload_n 1, 1) := by decide +kernel
theorem dX12_wheels_46 : decode cX12_wheels 46 = .ok (.iadd, 1) := by decide +kernel
theorem dX12_wheels_47 : decode cX12_wheels 47 = .ok (.iaload, 1) := by decide +kernel
theorem dX12_wheels_48 : decode cX12_wheels 48 = .ok (.ireturn, 1) := by decide +kernel
theorem dX12_spot_0 : decode cX12_spot 0 = .ok (.aload_n 0, 1) := by decide +kernel
theorem dX12_spot_1 : decode cX12_spot 1 = .ok (.iload_n 1, 1) := by decide +kernel
theorem dX12_spot_2 : decode cX12_spot 2 = .ok (.invokevirtual 373, 3) := by decide +kernel
theorem dX12_spot_5 : decode cX12_spot 5 = .ok (.ifCond .eq 12, 3) := by decide +kernel
theorem dX12_spot_8 : decode cX12_spot 8 = .ok (.iload_n 2, 1) := by decide +kernel
theorem dX12_spot_9 : decode cX12_spot 9 = .ok (.iconst 0, 1) := by decide +kernel
theorem dX12_spot_10 : decode cX12_spot 10 = .ok (.iconst 1, 1) := by decide +kernel
theorem dX12_spot_11 : decode cX12_spot 11 = .ok (.invokestatic 235, 3) := by decide +kernel
theorem dX12_spot_14 : decode cX12_spot 14 = .ok (.ifCond .ne 7, 3) := by decide +kernel
theorem dX12_spot_17 : decode cX12_spot 17 = .ok (.iconst (-1), 1) := by decide +kernel
theorem dX12_spot_18 : decode cX12_spot 18 = .ok (.goto 25, 3) := by decide +kernel
theorem dX12_spot_21 : decode cX12_spot 21 = .ok (.iload_n 2, 1) := by decide +kernel
theorem dX12_spot_22 : decode cX12_spot 22 = .ok (.ifCond .ne 12, 3) := by decide +kernel
theorem dX12_spot_25 : decode cX12_spot 25 = .ok (.aload_n 0, 1) := by decide +kernel
theorem dX12_spot_26 : decode cX12_spot 26 = .ok (.getfield 55, 3) := by decide +kernel
theorem dX12_spot_29 : decode cX12_spot 29 = .ok (.iload_n 1, 1) := by decide +kernel
theorem dX12_spot_30 : decode cX12_spot 30 = .ok (.iaload, 1) := by decide +kernel
theorem dX12_spot_31 : decode cX12_spot 31 = .ok (.goto 12, 3) := by decide +kernel
theorem dX12_spot_34 : decode cX12_spot 34 = .ok (.aload_n 0, 1) := by decide +kernel
theorem dX12_spot_35 : decode cX12_spot 35 = .ok (.getfield 70, 3) := by decide +kernel
theorem dX12_spot_38 : decode cX12_spot 38 = .ok (.bipush 24, 2) := by decide +kernel
theorem dX12_spot_40 : decode cX12_spot 40 = .ok (.iload_n 1, 1) := by decide +kernel
theorem dX12_spot_41 : decode cX12_spot 41 = .ok (.iadd, 1) := by decide +kernel
theorem dX12_spot_42 : decode cX12_spot 42 = .ok (.iaload, 1) := by decide +kernel
theorem dX12_spot_43 : decode cX12_spot 43 = .ok (.ireturn, 1) := by decide +kernel
theorem dX12_law_0 : decode cX12_law 0 = .ok (.iload_n 1, 1) := by decide +kernel
theorem dX12_law_1 : decode cX12_law 1 = .ok (.iconst (-1), 1) := by decide +kernel
theorem dX12_law_2 : decode cX12_law 2 = .ok (.aload_n 0, 1) := by decide +kernel
theorem dX12_law_3 : decode cX12_law 3 = .ok (.getfield 310, 3) := by decide +kernel
theorem dX12_law_6 : decode cX12_law 6 = .ok (.iconst 1, 1) := by decide +kernel
theorem dX12_law_7 : decode cX12_law 7 = .ok (.isub, 1) := by decide +kernel
theorem dX12_law_8 : decode cX12_law 8 = .ok (.invokestatic 235, 3) := by decide +kernel
theorem dX12_law_11 : decode cX12_law 11 = .ok (.ifCond .ne 5, 3) := by decide +kernel
theorem dX12_law_14 : decode cX12_law 14 = .ok (.iconst 0, 1) := by decide +kernel
theorem dX12_law_15 : decode cX12_law 15 = .ok (.ireturn, 1) := by decide +kernel
theorem dX12_law_16 : decode cX12_law 16 = .ok (.aload_n 0, 1) := by decide +kernel
theorem dX12_law_17 : decode cX12_law 17 = .ok (.iload_n 1, 1) := by decide +kernel
theorem dX12_law_18 : decode cX12_law 18 = .ok (.putfield 76, 3) := by decide +kernel
theorem dX12_law_21 : decode cX12_law 21 = .ok (.iconst 1, 1) := by decide +kernel
theorem dX12_law_22 : decode cX12_law 22 = .ok (.ireturn, 1) := by decide +kernel
theorem dX12_walked_0 : decode cX12_walked 0 = .ok (.aload_n 0, 1) := by decide +kernel
theorem dX12_walked_1 : decode cX12_walked 1 = .ok (.iload_n 1, 1) := by decide +kernel
theorem dX12_walked_2 : decode cX12_walked 2 = .ok (.invokevirtual 376, 3) := by decide +kernel
theorem dX12_walked_5 : decode cX12_walked 5 = .ok (.ifCond .eq 19, 3) := by decide +kernel
theorem dX12_walked_8 : decode cX12_walked 8 = .ok (.iload_n 2, 1) := by decide +kernel
theorem dX12_walked_9 : decode cX12_walked 9 = .ok (.iconst (-1), 1) := by decide +kernel
theorem dX12_walked_10 : decode cX12_walked 10 = .ok (.aload_n 0, 1) := by decide +kernel
theorem dX12_walked_11 : decode cX12_walked 11 = .ok (.getfield 67, 3) := by decide +kernel
theorem dX12_walked_14 : decode cX12_walked 14 = .ok (.iload_n 1, 1) := by decide +kernel
theorem dX12_walked_15 : decode cX12_walked 15 = .ok (.iaload, 1) := by decide +kernel
theorem dX12_walked_16 : decode cX12_walked 16 = .ok (.iconst 1, 1) := by decide +kernel
theorem dX12_walked_17 : decode cX12_walked 17 = .ok (.isub, 1) := by decide +kernel
theorem dX12_walked_18 : decode cX12_walked 18 = .ok (.invokestatic 235, 3) := by decide +kernel
theorem dX12_walked_21 : decode cX12_walked 21 = .ok (.ifCond .ne 5, 3) := by decide +kernel
theorem dX12_walked_24 : decode cX12_walked 24 = .ok (.iconst (-1), 1) := by decide +kernel
theorem dX12_walked_25 : decode cX12_walked 25 = .ok (.ireturn, 1) := by decide +kernel
theorem dX12_walked_26 : decode cX12_walked 26 = .ok (.iload_n 2, 1) := by decide +kernel
theorem dX12_walked_27 : decode cX12_walked 27 = .ok (.iconst (-1), 1) := by decide +kernel
theorem dX12_walked_28 : decode cX12_walked 28 = .ok (.if_icmp .ne 12, 3) := by decide +kernel
theorem dX12_walked_31 : decode cX12_walked 31 = .ok (.aload_n 0, 1) := by decide +kernel
theorem dX12_walked_32 : decode cX12_walked 32 = .ok (.getfield 67, 3) := by decide +kernel
theorem dX12_walked_35 : decode cX12_walked 35 = .ok (.iload_n 1, 1) := by decide +kernel
theorem dX12_walked_36 : decode cX12_walked 36 = .ok (.iaload, 1) := by decide +kernel
theorem dX12_walked_37 : decode cX12_walked 37 = .ok (.goto 14, 3) := by decide +kernel
theorem dX12_walked_40 : decode cX12_walked 40 = .ok (.aload_n 0, 1) := by decide +kernel
theorem dX12_walked_41 : decode cX12_walked 41 = .ok (.getfield 64, 3) := by decide +kernel
theorem dX12_walked_44 : decode cX12_walked 44 = .ok (.bipush 12, 2) := by decide +kernel
theorem dX12_walked_46 : decode cX12_walked 46 = .ok (.iload_n 1, 1) := by decide +kernel
theorem dX12_walked_47 : decode cX12_walked 47 = .ok (.imul, 1) := by decide +kernel
theorem dX12_walked_48 : decode cX12_walked 48 = .ok (.iload_n 2, 1) := by decide +kernel
theorem dX12_walked_49 : decode cX12_walked 49 = .ok (.iadd, 1) := by decide +kernel
theorem dX12_walked_50 : decode cX12_walked 50 = .ok (.iaload, 1) := by decide +kernel
theorem dX12_walked_51 : decode cX12_walked 51 = .ok (.ireturn, 1) := by decide +kernel
theorem dX12_keep_0 : decode cX12_keep 0 = .ok (.aload_n 0, 1) := by decide +kernel
theorem dX12_keep_1 : decode cX12_keep 1 = .ok (.getfield 300, 3) := by decide +kernel
theorem dX12_keep_4 : decode cX12_keep 4 = .ok (.bipush 40, 2) := by decide +kernel
theorem dX12_keep_6 : decode cX12_keep 6 = .ok (.if_icmp .ne 46, 3) := by decide +kernel
theorem dX12_keep_9 : decode cX12_keep 9 = .ok (.sipush 215, 3) := by decide +kernel
theorem dX12_keep_12 : decode cX12_keep 12 = .ok (.istore_n 1, 1) := by decide +kernel
theorem dX12_keep_13 : decode cX12_keep 13 = .ok (.iload_n 1, 1) := by decide +kernel
theorem dX12_keep_14 : decode cX12_keep 14 = .ok (.sipush 8600, 3) := by decide +kernel
theorem dX12_keep_17 : decode cX12_keep 17 = .ok (.if_icmp .ge 25, 3) := by decide +kernel
theorem dX12_keep_20 : decode cX12_keep 20 = .ok (.aload_n 0, 1) := by decide +kernel
theorem dX12_keep_21 : decode cX12_keep 21 = .ok (.getfield 89, 3) := by decide +kernel
theorem dX12_keep_24 : decode cX12_keep 24 = .ok (.iload_n 1, 1) := by decide +kernel
theorem dX12_keep_25 : decode cX12_keep 25 = .ok (.sipush 215, 3) := by decide +kernel
theorem dX12_keep_28 : decode cX12_keep 28 = .ok (.isub, 1) := by decide +kernel
theorem dX12_keep_29 : decode cX12_keep 29 = .ok (.aload_n 0, 1) := by decide +kernel
theorem dX12_keep_30 : decode cX12_keep 30 = .ok (.getfield 89, 3) := by decide +kernel
theorem dX12_keep_33 : decode cX12_keep 33 = .ok (.iload_n 1, 1) := by decide +kernel
theorem dX12_keep_34 : decode cX12_keep 34 = .ok (.iaload, 1) := by decide +kernel
theorem dX12_keep_35 : decode cX12_keep 35 = .ok (.iastore, 1) := by decide +kernel
theorem dX12_keep_36 : decode cX12_keep 36 = .ok (.iinc 1 1, 3) := by decide +kernel
theorem dX12_keep_39 : decode cX12_keep 39 = .ok (.goto (-26), 3) := by decide +kernel
theorem dX12_keep_42 : decode cX12_keep 42 = .ok (.aload_n 0, 1) := by decide +kernel
theorem dX12_keep_43 : decode cX12_keep 43 = .ok (.dup, 1) := by decide +kernel
theorem dX12_keep_44 : decode cX12_keep 44 = .ok (.getfield 300, 3) := by decide +kernel
theorem dX12_keep_47 : decode cX12_keep 47 = .ok (.iconst 1, 1) := by decide +kernel
theorem dX12_keep_48 : decode cX12_keep 48 = .ok (.isub, 1) := by decide +kernel
theorem dX12_keep_49 : decode cX12_keep 49 = .ok (.putfield 300, 3) := by decide +kernel
theorem dX12_keep_52 : decode cX12_keep 52 = .ok (.iconst 0, 1) := by decide +kernel
theorem dX12_keep_53 : decode cX12_keep 53 = .ok (.istore_n 1, 1) := by decide +kernel
theorem dX12_keep_54 : decode cX12_keep 54 = .ok (.iload_n 1, 1) := by decide +kernel
theorem dX12_keep_55 : decode cX12_keep 55 = .ok (.sipush 215, 3) := by decide +kernel
theorem dX12_keep_58 : decode cX12_keep 58 = .ok (.if_icmp .ge 30, 3) := by decide +kernel
theorem dX12_keep_61 : decode cX12_keep 61 = .ok (.aload_n 0, 1) := by decide +kernel
theorem dX12_keep_62 : decode cX12_keep 62 = .ok (.getfield 89, 3) := by decide +kernel
theorem dX12_keep_65 : decode cX12_keep 65 = .ok (.sipush 215, 3) := by decide +kernel
theorem dX12_keep_68 : decode cX12_keep 68 = .ok (.aload_n 0, 1) := by decide +kernel
theorem dX12_keep_69 : decode cX12_keep 69 = .ok (.getfield 300, 3) := by decide +kernel
theorem dX12_keep_72 : decode cX12_keep 72 = .ok (.imul, 1) := by decide +kernel
theorem dX12_keep_73 : decode cX12_keep 73 = .ok (.iload_n 1, 1) := by decide +kernel
theorem dX12_keep_74 : decode cX12_keep 74 = .ok (.iadd, 1) := by decide +kernel
theorem dX12_keep_75 : decode cX12_keep 75 = .ok (.aload_n 0, 1) := by decide +kernel
theorem dX12_keep_76 : decode cX12_keep 76 = .ok (.getfield 70, 3) := by decide +kernel
theorem dX12_keep_79 : decode cX12_keep 79 = .ok (.iload_n 1, 1) := by decide +kernel
theorem dX12_keep_80 : decode cX12_keep 80 = .ok (.iaload, 1) := by decide +kernel
theorem dX12_keep_81 : decode cX12_keep 81 = .ok (.iastore, 1) := by decide +kernel
theorem dX12_keep_82 : decode cX12_keep 82 = .ok (.iinc 1 1, 3) := by decide +kernel
theorem dX12_keep_85 : decode cX12_keep 85 = .ok (.goto (-31), 3) := by decide +kernel
theorem dX12_keep_88 : decode cX12_keep 88 = .ok (.aload_n 0, 1) := by decide +kernel
theorem dX12_keep_89 : decode cX12_keep 89 = .ok (.dup, 1) := by decide +kernel
theorem dX12_keep_90 : decode cX12_keep 90 = .ok (.getfield 300, 3) := by decide +kernel
theorem dX12_keep_93 : decode cX12_keep 93 = .ok (.iconst 1, 1) := by decide +kernel
theorem dX12_keep_94 : decode cX12_keep 94 = .ok (.iadd, 1) := by decide +kernel
theorem dX12_keep_95 : decode cX12_keep 95 = .ok (.putfield 300, 3) := by decide +kernel
theorem dX12_keep_98 : decode cX12_keep 98 = .ok (.return_, 1) := by decide +kernel
theorem dX12_isRefused_0 : decode cX12_isRefused 0 = .ok (.iload_n 1, 1) := by decide +kernel
theorem dX12_isRefused_1 : decode cX12_isRefused 1 = .ok (.iconst (-1), 1) := by decide +kernel
theorem dX12_isRefused_2 : decode cX12_isRefused 2 = .ok (.if_icmp .eq 13, 3) := by decide +kernel
theorem dX12_isRefused_5 : decode cX12_isRefused 5 = .ok (.aload_n 0, 1) := by decide +kernel
theorem dX12_isRefused_6 : decode cX12_isRefused 6 = .ok (.getfield 73, 3) := by decide +kernel
theorem dX12_isRefused_9 : decode cX12_isRefused 9 = .ok (.iload_n 1, 1) := by decide +kernel
theorem dX12_isRefused_10 : decode cX12_isRefused 10 = .ok (.dup2, 1) := by decide +kernel
theorem dX12_isRefused_11 : decode cX12_isRefused 11 = .ok (.iaload, 1) := by decide +kernel
theorem dX12_isRefused_12 : decode cX12_isRefused 12 = .ok (.iconst 1, 1) := by decide +kernel
theorem dX12_isRefused_13 : decode cX12_isRefused 13 = .ok (.iadd, 1) := by decide +kernel
theorem dX12_isRefused_14 : decode cX12_isRefused 14 = .ok (.iastore, 1) := by decide +kernel
theorem dX12_isRefused_15 : decode cX12_isRefused 15 = .ok (.iload_n 1, 1) := by decide +kernel
theorem dX12_isRefused_16 : decode cX12_isRefused 16 = .ok (.iconst (-1), 1) := by decide +kernel
theorem dX12_isRefused_17 : decode cX12_isRefused 17 = .ok (.if_icmp .eq 7, 3) := by decide +kernel
theorem dX12_isRefused_20 : decode cX12_isRefused 20 = .ok (.iconst 1, 1) := by decide +kernel
theorem dX12_isRefused_21 : decode cX12_isRefused 21 = .ok (.goto 4, 3) := by decide +kernel
theorem dX12_isRefused_24 : decode cX12_isRefused 24 = .ok (.iconst 0, 1) := by decide +kernel
theorem dX12_isRefused_25 : decode cX12_isRefused 25 = .ok (.ireturn, 1) := by decide +kernel
theorem dX12_areDays_0 : decode cX12_areDays 0 = .ok (.iload_n 1, 1) := by decide +kernel
theorem dX12_areDays_1 : decode cX12_areDays 1 = .ok (.iconst 1, 1) := by decide +kernel
theorem dX12_areDays_2 : decode cX12_areDays 2 = .ok (.bipush 60, 2) := by decide +kernel
theorem dX12_areDays_4 : decode cX12_areDays 4 = .ok (.invokestatic 235, 3) := by decide +kernel
theorem dX12_areDays_7 : decode cX12_areDays 7 = .ok (.ifCond .eq 22, 3) := by decide +kernel
theorem dX12_areDays_10 : decode cX12_areDays 10 = .ok (.aload_n 0, 1) := by decide +kernel
theorem dX12_areDays_11 : decode cX12_areDays 11 = .ok (.getfield 70, 3) := by decide +kernel
theorem dX12_areDays_14 : decode cX12_areDays 14 = .ok (.bipush 33, 2) := by decide +kernel
theorem dX12_areDays_16 : decode cX12_areDays 16 = .ok (.iaload, 1) := by decide +kernel
theorem dX12_areDays_17 : decode cX12_areDays 17 = .ok (.iload_n 1, 1) := by decide +kernel
theorem dX12_areDays_18 : decode cX12_areDays 18 = .ok (.iadd, 1) := by decide +kernel
theorem dX12_areDays_19 : decode cX12_areDays 19 = .ok (.sipush 999, 3) := by decide +kernel
theorem dX12_areDays_22 : decode cX12_areDays 22 = .ok (.if_icmp .gt 7, 3) := by decide +kernel
theorem dX12_areDays_25 : decode cX12_areDays 25 = .ok (.iconst 1, 1) := by decide +kernel
theorem dX12_areDays_26 : decode cX12_areDays 26 = .ok (.goto 4, 3) := by decide +kernel
theorem dX12_areDays_29 : decode cX12_areDays 29 = .ok (.iconst 0, 1) := by decide +kernel
theorem dX12_areDays_30 : decode cX12_areDays 30 = .ok (.ireturn, 1) := by decide +kernel
theorem dX12_days_0 : decode cX12_days 0 = .ok (.aload_n 0, 1) := by decide +kernel
theorem dX12_days_1 : decode cX12_days 1 = .ok (.aload_n 0, 1) := by decide +kernel
theorem dX12_days_2 : decode cX12_days 2 = .ok (.getfield 288, 3) := by decide +kernel
theorem dX12_days_5 : decode cX12_days 5 = .ok (.ifCond .ne 7, 3) := by decide +kernel
theorem dX12_days_8 : decode cX12_days 8 = .ok (.iconst 0, 1) := by decide +kernel
theorem dX12_days_9 : decode cX12_days 9 = .ok (.goto 30, 3) := by decide +kernel
theorem dX12_days_12 : decode cX12_days 12 = .ok (.iload_n 1, 1) := by decide +kernel
theorem dX12_days_13 : decode cX12_days 13 = .ok (.iconst 1, 1) := by decide +kernel
theorem dX12_days_14 : decode cX12_days 14 = .ok (.bipush 60, 2) := by decide +kernel
theorem dX12_days_16 : decode cX12_days 16 = .ok (.invokestatic 235, 3) := by decide +kernel
theorem dX12_days_19 : decode cX12_days 19 = .ok (.ifCond .ne 7, 3) := by decide +kernel
theorem dX12_days_22 : decode cX12_days 22 = .ok (.iconst 1, 1) := by decide +kernel
theorem dX12_days_23 : decode cX12_days 23 = .ok (.goto 16, 3) := by decide +kernel
theorem dX12_days_26 : decode cX12_days 26 = .ok (.aload_n 0, 1) := by decide +kernel
theorem dX12_days_27 : decode cX12_days 27 = .ok (.iload_n 1, 1) := by decide +kernel
theorem dX12_days_28 : decode cX12_days 28 = .ok (.invokevirtual 379, 3) := by decide +kernel
theorem dX12_days_31 : decode cX12_days 31 = .ok (.ifCond .ne 7, 3) := by decide +kernel
theorem dX12_days_34 : decode cX12_days 34 = .ok (.iconst 4, 1) := by decide +kernel
theorem dX12_days_35 : decode cX12_days 35 = .ok (.goto 4, 3) := by decide +kernel
theorem dX12_days_38 : decode cX12_days 38 = .ok (.iconst (-1), 1) := by decide +kernel
theorem dX12_days_39 : decode cX12_days 39 = .ok (.invokevirtual 382, 3) := by decide +kernel
theorem dX12_days_42 : decode cX12_days 42 = .ok (.ifCond .eq 5, 3) := by decide +kernel
theorem dX12_days_45 : decode cX12_days 45 = .ok (.iconst (-1), 1) := by decide +kernel
theorem dX12_days_46 : decode cX12_days 46 = .ok (.ireturn, 1) := by decide +kernel
theorem dX12_days_47 : decode cX12_days 47 = .ok (.iconst 0, 1) := by decide +kernel
theorem dX12_days_48 : decode cX12_days 48 = .ok (.istore_n 2, 1) := by decide +kernel
theorem dX12_days_49 : decode cX12_days 49 = .ok (.iload_n 2, 1) := by decide +kernel
theorem dX12_days_50 : decode cX12_days 50 = .ok (.iload_n 1, 1) := by decide +kernel
theorem dX12_days_51 : decode cX12_days 51 = .ok (.if_icmp .ge 17, 3) := by decide +kernel
theorem dX12_days_54 : decode cX12_days 54 = .ok (.aload_n 0, 1) := by decide +kernel
theorem dX12_days_55 : decode cX12_days 55 = .ok (.invokevirtual 385, 3) := by decide +kernel
theorem dX12_days_58 : decode cX12_days 58 = .ok (.aload_n 0, 1) := by decide +kernel
theorem dX12_days_59 : decode cX12_days 59 = .ok (.invokevirtual 388, 3) := by decide +kernel
theorem dX12_days_62 : decode cX12_days 62 = .ok (.iinc 2 1, 3) := by decide +kernel
theorem dX12_days_65 : decode cX12_days 65 = .ok (.goto (-16), 3) := by decide +kernel
theorem dX12_days_68 : decode cX12_days 68 = .ok (.aload_n 0, 1) := by decide +kernel
theorem dX12_days_69 : decode cX12_days 69 = .ok (.getfield 70, 3) := by decide +kernel
theorem dX12_days_72 : decode cX12_days 72 = .ok (.bipush 33, 2) := by decide +kernel
theorem dX12_days_74 : decode cX12_days 74 = .ok (.iaload, 1) := by decide +kernel
theorem dX12_days_75 : decode cX12_days 75 = .ok (.ireturn, 1) := by decide +kernel
theorem dX12_putNow_0 : decode cX12_putNow 0 = .ok (.aload_n 0, 1) := by decide +kernel
theorem dX12_putNow_1 : decode cX12_putNow 1 = .ok (.getfield 70, 3) := by decide +kernel
theorem dX12_putNow_4 : decode cX12_putNow 4 = .ok (.iconst 4, 1) := by decide +kernel
theorem dX12_putNow_5 : decode cX12_putNow 5 = .ok (.iload_n 1, 1) := by decide +kernel
theorem dX12_putNow_6 : decode cX12_putNow 6 = .ok (.iadd, 1) := by decide +kernel
theorem dX12_putNow_7 : decode cX12_putNow 7 = .ok (.iload_n 2, 1) := by decide +kernel
theorem dX12_putNow_8 : decode cX12_putNow 8 = .ok (.iastore, 1) := by decide +kernel
theorem dX12_putNow_9 : decode cX12_putNow 9 = .ok (.aload_n 0, 1) := by decide +kernel
theorem dX12_putNow_10 : decode cX12_putNow 10 = .ok (.getfield 70, 3) := by decide +kernel
theorem dX12_putNow_13 : decode cX12_putNow 13 = .ok (.bipush 8, 2) := by decide +kernel
theorem dX12_putNow_15 : decode cX12_putNow 15 = .ok (.iload_n 1, 1) := by decide +kernel
theorem dX12_putNow_16 : decode cX12_putNow 16 = .ok (.iadd, 1) := by decide +kernel
theorem dX12_putNow_17 : decode cX12_putNow 17 = .ok (.iconst 1, 1) := by decide +kernel
theorem dX12_putNow_18 : decode cX12_putNow 18 = .ok (.iastore, 1) := by decide +kernel
theorem dX12_putNow_19 : decode cX12_putNow 19 = .ok (.return_, 1) := by decide +kernel
theorem dX12_beginsAt_0 : decode cX12_beginsAt 0 = .ok (.aload_n 0, 1) := by decide +kernel
theorem dX12_beginsAt_1 : decode cX12_beginsAt 1 = .ok (.getfield 64, 3) := by decide +kernel
theorem dX12_beginsAt_4 : decode cX12_beginsAt 4 = .ok (.bipush 12, 2) := by decide +kernel
theorem dX12_beginsAt_6 : decode cX12_beginsAt 6 = .ok (.iload_n 1, 1) := by decide +kernel
theorem dX12_beginsAt_7 : decode cX12_beginsAt 7 = .ok (.imul, 1) := by decide +kernel
theorem dX12_beginsAt_8 : decode cX12_beginsAt 8 = .ok (.iaload, 1) := by decide +kernel
theorem dX12_beginsAt_9 : decode cX12_beginsAt 9 = .ok (.iload_n 2, 1) := by decide +kernel
theorem dX12_beginsAt_10 : decode cX12_beginsAt 10 = .ok (.if_icmp .ne 7, 3) := by decide +kernel
theorem dX12_beginsAt_13 : decode cX12_beginsAt 13 = .ok (.iconst 1, 1) := by decide +kernel
theorem dX12_beginsAt_14 : decode cX12_beginsAt 14 = .ok (.goto 4, 3) := by decide +kernel
theorem dX12_beginsAt_17 : decode cX12_beginsAt 17 = .ok (.iconst 0, 1) := by decide +kernel
theorem dX12_beginsAt_18 : decode cX12_beginsAt 18 = .ok (.ireturn, 1) := by decide +kernel
theorem dX12_puts_0 : decode cX12_puts 0 = .ok (.aload_n 0, 1) := by decide +kernel
theorem dX12_puts_1 : decode cX12_puts 1 = .ok (.aload_n 0, 1) := by decide +kernel
theorem dX12_puts_2 : decode cX12_puts 2 = .ok (.iload_n 1, 1) := by decide +kernel
theorem dX12_puts_3 : decode cX12_puts 3 = .ok (.invokevirtual 370, 3) := by decide +kernel
theorem dX12_puts_6 : decode cX12_puts 6 = .ok (.ifCond .ne 7, 3) := by decide +kernel
theorem dX12_puts_9 : decode cX12_puts 9 = .ok (.iconst 0, 1) := by decide +kernel
theorem dX12_puts_10 : decode cX12_puts 10 = .ok (.goto 51, 3) := by decide +kernel
theorem dX12_puts_13 : decode cX12_puts 13 = .ok (.aload_n 0, 1) := by decide +kernel
theorem dX12_puts_14 : decode cX12_puts 14 = .ok (.iload_n 2, 1) := by decide +kernel
theorem dX12_puts_15 : decode cX12_puts 15 = .ok (.invokevirtual 376, 3) := by decide +kernel
theorem dX12_puts_18 : decode cX12_puts 18 = .ok (.ifCond .ne 7, 3) := by decide +kernel
theorem dX12_puts_21 : decode cX12_puts 21 = .ok (.iconst 1, 1) := by decide +kernel
theorem dX12_puts_22 : decode cX12_puts 22 = .ok (.goto 39, 3) := by decide +kernel
theorem dX12_puts_25 : decode cX12_puts 25 = .ok (.aload_n 0, 1) := by decide +kernel
theorem dX12_puts_26 : decode cX12_puts 26 = .ok (.iload_n 2, 1) := by decide +kernel
theorem dX12_puts_27 : decode cX12_puts 27 = .ok (.aload_n 0, 1) := by decide +kernel
theorem dX12_puts_28 : decode cX12_puts 28 = .ok (.getfield 70, 3) := by decide +kernel
theorem dX12_puts_31 : decode cX12_puts 31 = .ok (.iconst 0, 1) := by decide +kernel
theorem dX12_puts_32 : decode cX12_puts 32 = .ok (.iload_n 1, 1) := by decide +kernel
theorem dX12_puts_33 : decode cX12_puts 33 = .ok (.iadd, 1) := by decide +kernel
theorem dX12_puts_34 : decode cX12_puts 34 = .ok (.iaload, 1) := by decide +kernel
theorem dX12_puts_35 : decode cX12_puts 35 = .ok (.invokevirtual 391, 3) := by decide +kernel
theorem dX12_puts_38 : decode cX12_puts 38 = .ok (.ifCond .ne 7, 3) := by decide +kernel
theorem dX12_puts_41 : decode cX12_puts 41 = .ok (.iconst 2, 1) := by decide +kernel
theorem dX12_puts_42 : decode cX12_puts 42 = .ok (.goto 19, 3) := by decide +kernel
theorem dX12_puts_45 : decode cX12_puts 45 = .ok (.aload_n 0, 1) := by decide +kernel
theorem dX12_puts_46 : decode cX12_puts 46 = .ok (.getfield 70, 3) := by decide +kernel
theorem dX12_puts_49 : decode cX12_puts 49 = .ok (.bipush 32, 2) := by decide +kernel
theorem dX12_puts_51 : decode cX12_puts 51 = .ok (.iaload, 1) := by decide +kernel
theorem dX12_puts_52 : decode cX12_puts 52 = .ok (.iconst 3, 1) := by decide +kernel
theorem dX12_puts_53 : decode cX12_puts 53 = .ok (.if_icmp .ge 7, 3) := by decide +kernel
theorem dX12_puts_56 : decode cX12_puts 56 = .ok (.iconst 3, 1) := by decide +kernel
theorem dX12_puts_57 : decode cX12_puts 57 = .ok (.goto 4, 3) := by decide +kernel
theorem dX12_puts_60 : decode cX12_puts 60 = .ok (.iconst (-1), 1) := by decide +kernel
theorem dX12_puts_61 : decode cX12_puts 61 = .ok (.invokevirtual 382, 3) := by decide +kernel
theorem dX12_puts_64 : decode cX12_puts 64 = .ok (.ifCond .eq 5, 3) := by decide +kernel
theorem dX12_puts_67 : decode cX12_puts 67 = .ok (.iconst (-1), 1) := by decide +kernel
theorem dX12_puts_68 : decode cX12_puts 68 = .ok (.ireturn, 1) := by decide +kernel
theorem dX12_puts_69 : decode cX12_puts 69 = .ok (.aload_n 0, 1) := by decide +kernel
theorem dX12_puts_70 : decode cX12_puts 70 = .ok (.invokevirtual 385, 3) := by decide +kernel
theorem dX12_puts_73 : decode cX12_puts 73 = .ok (.aload_n 0, 1) := by decide +kernel
theorem dX12_puts_74 : decode cX12_puts 74 = .ok (.getfield 70, 3) := by decide +kernel
theorem dX12_puts_77 : decode cX12_puts 77 = .ok (.bipush 32, 2) := by decide +kernel
theorem dX12_puts_79 : decode cX12_puts 79 = .ok (.dup2, 1) := by decide +kernel
theorem dX12_puts_80 : decode cX12_puts 80 = .ok (.iaload, 1) := by decide +kernel
theorem dX12_puts_81 : decode cX12_puts 81 = .ok (.iconst 3, 1) := by decide +kernel
theorem dX12_puts_82 : decode cX12_puts 82 = .ok (.isub, 1) := by decide +kernel
theorem dX12_puts_83 : decode cX12_puts 83 = .ok (.iastore, 1) := by decide +kernel
theorem dX12_puts_84 : decode cX12_puts 84 = .ok (.aload_n 0, 1) := by decide +kernel
theorem dX12_puts_85 : decode cX12_puts 85 = .ok (.iload_n 1, 1) := by decide +kernel
theorem dX12_puts_86 : decode cX12_puts 86 = .ok (.iload_n 2, 1) := by decide +kernel
theorem dX12_puts_87 : decode cX12_puts 87 = .ok (.invokevirtual 394, 3) := by decide +kernel
theorem dX12_puts_90 : decode cX12_puts 90 = .ok (.aload_n 0, 1) := by decide +kernel
theorem dX12_puts_91 : decode cX12_puts 91 = .ok (.getfield 67, 3) := by decide +kernel
theorem dX12_puts_94 : decode cX12_puts 94 = .ok (.iload_n 2, 1) := by decide +kernel
theorem dX12_puts_95 : decode cX12_puts 95 = .ok (.iaload, 1) := by decide +kernel
theorem dX12_puts_96 : decode cX12_puts 96 = .ok (.ireturn, 1) := by decide +kernel
theorem dX12_carries_0 : decode cX12_carries 0 = .ok (.aload_n 0, 1) := by decide +kernel
theorem dX12_carries_1 : decode cX12_carries 1 = .ok (.aload_n 0, 1) := by decide +kernel
theorem dX12_carries_2 : decode cX12_carries 2 = .ok (.iload_n 1, 1) := by decide +kernel
theorem dX12_carries_3 : decode cX12_carries 3 = .ok (.invokevirtual 370, 3) := by decide +kernel
theorem dX12_carries_6 : decode cX12_carries 6 = .ok (.ifCond .ne 7, 3) := by decide +kernel
theorem dX12_carries_9 : decode cX12_carries 9 = .ok (.iconst 0, 1) := by decide +kernel
theorem dX12_carries_10 : decode cX12_carries 10 = .ok (.goto 47, 3) := by decide +kernel
theorem dX12_carries_13 : decode cX12_carries 13 = .ok (.aload_n 0, 1) := by decide +kernel
theorem dX12_carries_14 : decode cX12_carries 14 = .ok (.iload_n 2, 1) := by decide +kernel
theorem dX12_carries_15 : decode cX12_carries 15 = .ok (.invokevirtual 373, 3) := by decide +kernel
theorem dX12_carries_18 : decode cX12_carries 18 = .ok (.ifCond .ne 7, 3) := by decide +kernel
theorem dX12_carries_21 : decode cX12_carries 21 = .ok (.iconst 1, 1) := by decide +kernel
theorem dX12_carries_22 : decode cX12_carries 22 = .ok (.goto 35, 3) := by decide +kernel
theorem dX12_carries_25 : decode cX12_carries 25 = .ok (.aload_n 0, 1) := by decide +kernel
theorem dX12_carries_26 : decode cX12_carries 26 = .ok (.getfield 70, 3) := by decide +kernel
theorem dX12_carries_29 : decode cX12_carries 29 = .ok (.iconst 0, 1) := by decide +kernel
theorem dX12_carries_30 : decode cX12_carries 30 = .ok (.iload_n 1, 1) := by decide +kernel
theorem dX12_carries_31 : decode cX12_carries 31 = .ok (.iadd, 1) := by decide +kernel
theorem dX12_carries_32 : decode cX12_carries 32 = .ok (.iaload, 1) := by decide +kernel
theorem dX12_carries_33 : decode cX12_carries 33 = .ok (.iload_n 2, 1) := by decide +kernel
theorem dX12_carries_34 : decode cX12_carries 34 = .ok (.if_icmp .ne 7, 3) := by decide +kernel
theorem dX12_carries_37 : decode cX12_carries 37 = .ok (.iconst 2, 1) := by decide +kernel
theorem dX12_carries_38 : decode cX12_carries 38 = .ok (.goto 19, 3) := by decide +kernel
theorem dX12_carries_41 : decode cX12_carries 41 = .ok (.aload_n 0, 1) := by decide +kernel
theorem dX12_carries_42 : decode cX12_carries 42 = .ok (.getfield 70, 3) := by decide +kernel
theorem dX12_carries_45 : decode cX12_carries 45 = .ok (.bipush 32, 2) := by decide +kernel
theorem dX12_carries_47 : decode cX12_carries 47 = .ok (.iaload, 1) := by decide +kernel
theorem dX12_carries_48 : decode cX12_carries 48 = .ok (.iconst 2, 1) := by decide +kernel
theorem dX12_carries_49 : decode cX12_carries 49 = .ok (.if_icmp .ge 7, 3) := by decide +kernel
theorem dX12_carries_52 : decode cX12_carries 52 = .ok (.iconst 3, 1) := by decide +kernel
theorem dX12_carries_53 : decode cX12_carries 53 = .ok (.goto 4, 3) := by decide +kernel
theorem dX12_carries_56 : decode cX12_carries 56 = .ok (.iconst (-1), 1) := by decide +kernel
theorem dX12_carries_57 : decode cX12_carries 57 = .ok (.invokevirtual 382, 3) := by decide +kernel
theorem dX12_carries_60 : decode cX12_carries 60 = .ok (.ifCond .eq 5, 3) := by decide +kernel
theorem dX12_carries_63 : decode cX12_carries 63 = .ok (.iconst (-1), 1) := by decide +kernel
theorem dX12_carries_64 : decode cX12_carries 64 = .ok (.ireturn, 1) := by decide +kernel
theorem dX12_carries_65 : decode cX12_carries 65 = .ok (.aload_n 0, 1) := by decide +kernel
theorem dX12_carries_66 : decode cX12_carries 66 = .ok (.invokevirtual 385, 3) := by decide +kernel
theorem dX12_carries_69 : decode cX12_carries 69 = .ok (.aload_n 0, 1) := by decide +kernel
theorem dX12_carries_70 : decode cX12_carries 70 = .ok (.getfield 70, 3) := by decide +kernel
theorem dX12_carries_73 : decode cX12_carries 73 = .ok (.iconst 0, 1) := by decide +kernel
theorem dX12_carries_74 : decode cX12_carries 74 = .ok (.iload_n 1, 1) := by decide +kernel
theorem dX12_carries_75 : decode cX12_carries 75 = .ok (.iadd, 1) := by decide +kernel
theorem dX12_carries_76 : decode cX12_carries 76 = .ok (.iaload, 1) := by decide +kernel
theorem dX12_carries_77 : decode cX12_carries 77 = .ok (.istore_n 3, 1) := by decide +kernel
theorem dX12_carries_78 : decode cX12_carries 78 = .ok (.aload_n 0, 1) := by decide +kernel
