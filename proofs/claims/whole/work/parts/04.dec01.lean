theorem dX3_readAtom_52 : decode cX3_readAtom 52 = .ok (.if_icmp .lt 5, 3) := by decide +kernel
theorem dX3_readAtom_55 : decode cX3_readAtom 55 = .ok (.iconst 0, 1) := by decide +kernel
theorem dX3_readAtom_56 : decode cX3_readAtom 56 = .ok (.ireturn, 1) := by decide +kernel
theorem dX3_readAtom_57 : decode cX3_readAtom 57 = .ok (.aload_n 0, 1) := by decide +kernel
theorem dX3_readAtom_58 : decode cX3_readAtom 58 = .ok (.getfield 15, 3) := by decide +kernel
theorem dX3_readAtom_61 : decode cX3_readAtom 61 = .ok (.dup, 1) := by decide +kernel
theorem dX3_readAtom_62 : decode cX3_readAtom 62 = .ok (.getfield 19, 3) := by decide +kernel
theorem dX3_readAtom_65 : decode cX3_readAtom 65 = .ok (.iconst 1, 1) := by decide +kernel
theorem dX3_readAtom_66 : decode cX3_readAtom 66 = .ok (.iadd, 1) := by decide +kernel
theorem dX3_readAtom_67 : decode cX3_readAtom 67 = .ok (.putfield 19, 3) := by decide +kernel
theorem dX3_readAtom_70 : decode cX3_readAtom 70 = .ok (.aload_n 0, 1) := by decide +kernel
theorem dX3_readAtom_71 : decode cX3_readAtom 71 = .ok (.iload_n 1, 1) := by decide +kernel
theorem dX3_readAtom_72 : decode cX3_readAtom 72 = .ok (.iconst 1, 1) := by decide +kernel
theorem dX3_readAtom_73 : decode cX3_readAtom 73 = .ok (.iadd, 1) := by decide +kernel
theorem dX3_readAtom_74 : decode cX3_readAtom 74 = .ok (.invokevirtual 46, 3) := by decide +kernel
theorem dX3_readAtom_77 : decode cX3_readAtom 77 = .ok (.ifCond .eq 15, 3) := by decide +kernel
theorem dX3_readAtom_80 : decode cX3_readAtom 80 = .ok (.aload_n 0, 1) := by decide +kernel
theorem dX3_readAtom_81 : decode cX3_readAtom 81 = .ok (.getfield 15, 3) := by decide +kernel
theorem dX3_readAtom_84 : decode cX3_readAtom 84 = .ok (.invokevirtual 32, 3) := by decide +kernel
theorem dX3_readAtom_87 : decode cX3_readAtom 87 = .ok (.bipush 93, 2) := by decide +kernel
theorem dX3_readAtom_89 : decode cX3_readAtom 89 = .ok (.if_icmp .eq 5, 3) := by decide +kernel
theorem dX3_readAtom_92 : decode cX3_readAtom 92 = .ok (.iconst 0, 1) := by decide +kernel
theorem dX3_readAtom_93 : decode cX3_readAtom 93 = .ok (.ireturn, 1) := by decide +kernel
theorem dX3_readAtom_94 : decode cX3_readAtom 94 = .ok (.aload_n 0, 1) := by decide +kernel
theorem dX3_readAtom_95 : decode cX3_readAtom 95 = .ok (.getfield 15, 3) := by decide +kernel
theorem dX3_readAtom_98 : decode cX3_readAtom 98 = .ok (.dup, 1) := by decide +kernel
theorem dX3_readAtom_99 : decode cX3_readAtom 99 = .ok (.getfield 19, 3) := by decide +kernel
theorem dX3_readAtom_102 : decode cX3_readAtom 102 = .ok (.iconst 1, 1) := by decide +kernel
theorem dX3_readAtom_103 : decode cX3_readAtom 103 = .ok (.iadd, 1) := by decide +kernel
theorem dX3_readAtom_104 : decode cX3_readAtom 104 = .ok (.putfield 19, 3) := by decide +kernel
theorem dX3_readAtom_107 : decode cX3_readAtom 107 = .ok (.iconst 1, 1) := by decide +kernel
theorem dX3_readAtom_108 : decode cX3_readAtom 108 = .ok (.ireturn, 1) := by decide +kernel
theorem dX3_readAtom_109 : decode cX3_readAtom 109 = .ok (.iload_n 2, 1) := by decide +kernel
theorem dX3_readAtom_110 : decode cX3_readAtom 110 = .ok (.ifCond .ge 7, 3) := by decide +kernel
theorem dX3_readAtom_113 : decode cX3_readAtom 113 = .ok (.iconst (-1), 1) := by decide +kernel
theorem dX3_readAtom_114 : decode cX3_readAtom 114 = .ok (.goto 10, 3) := by decide +kernel
theorem dX3_readAtom_117 : decode cX3_readAtom 117 = .ok (.ldc 82, 2) := by decide +kernel
theorem dX3_readAtom_119 : decode cX3_readAtom 119 = .ok (.iload_n 2, 1) := by decide +kernel
theorem dX3_readAtom_120 : decode cX3_readAtom 120 = .ok (.i2c, 1) := by decide +kernel
theorem dX3_readAtom_121 : decode cX3_readAtom 121 = .ok (.invokevirtual 84, 3) := by decide +kernel
theorem dX3_readAtom_124 : decode cX3_readAtom 124 = .ok (.istore_n 3, 1) := by decide +kernel
theorem dX3_readAtom_125 : decode cX3_readAtom 125 = .ok (.iload_n 3, 1) := by decide +kernel
theorem dX3_readAtom_126 : decode cX3_readAtom 126 = .ok (.ifCond .ge 5, 3) := by decide +kernel
theorem dX3_readAtom_129 : decode cX3_readAtom 129 = .ok (.iconst 0, 1) := by decide +kernel
theorem dX3_readAtom_130 : decode cX3_readAtom 130 = .ok (.ireturn, 1) := by decide +kernel
theorem dX3_readAtom_131 : decode cX3_readAtom 131 = .ok (.aload_n 0, 1) := by decide +kernel
theorem dX3_readAtom_132 : decode cX3_readAtom 132 = .ok (.getfield 15, 3) := by decide +kernel
theorem dX3_readAtom_135 : decode cX3_readAtom 135 = .ok (.dup, 1) := by decide +kernel
theorem dX3_readAtom_136 : decode cX3_readAtom 136 = .ok (.getfield 19, 3) := by decide +kernel
theorem dX3_readAtom_139 : decode cX3_readAtom 139 = .ok (.iconst 1, 1) := by decide +kernel
theorem dX3_readAtom_140 : decode cX3_readAtom 140 = .ok (.iadd, 1) := by decide +kernel
theorem dX3_readAtom_141 : decode cX3_readAtom 141 = .ok (.putfield 19, 3) := by decide +kernel
theorem dX3_readAtom_144 : decode cX3_readAtom 144 = .ok (.aload_n 0, 1) := by decide +kernel
theorem dX3_readAtom_145 : decode cX3_readAtom 145 = .ok (.sipush 10000, 3) := by decide +kernel
theorem dX3_readAtom_148 : decode cX3_readAtom 148 = .ok (.iload_n 3, 1) := by decide +kernel
theorem dX3_readAtom_149 : decode cX3_readAtom 149 = .ok (.iadd, 1) := by decide +kernel
theorem dX3_readAtom_150 : decode cX3_readAtom 150 = .ok (.invokevirtual 54, 3) := by decide +kernel
theorem dX3_readAtom_153 : decode cX3_readAtom 153 = .ok (.ireturn, 1) := by decide +kernel
theorem dX3_emit_0 : decode cX3_emit 0 = .ok (.aload_n 0, 1) := by decide +kernel
theorem dX3_emit_1 : decode cX3_emit 1 = .ok (.getfield 25, 3) := by decide +kernel
theorem dX3_emit_4 : decode cX3_emit 4 = .ok (.aload_n 0, 1) := by decide +kernel
theorem dX3_emit_5 : decode cX3_emit 5 = .ok (.getfield 9, 3) := by decide +kernel
theorem dX3_emit_8 : decode cX3_emit 8 = .ok (.arraylength, 1) := by decide +kernel
theorem dX3_emit_9 : decode cX3_emit 9 = .ok (.if_icmp .lt 5, 3) := by decide +kernel
theorem dX3_emit_12 : decode cX3_emit 12 = .ok (.iconst 0, 1) := by decide +kernel
theorem dX3_emit_13 : decode cX3_emit 13 = .ok (.ireturn, 1) := by decide +kernel
theorem dX3_emit_14 : decode cX3_emit 14 = .ok (.aload_n 0, 1) := by decide +kernel
theorem dX3_emit_15 : decode cX3_emit 15 = .ok (.getfield 9, 3) := by decide +kernel
theorem dX3_emit_18 : decode cX3_emit 18 = .ok (.aload_n 0, 1) := by decide +kernel
theorem dX3_emit_19 : decode cX3_emit 19 = .ok (.getfield 25, 3) := by decide +kernel
theorem dX3_emit_22 : decode cX3_emit 22 = .ok (.iload_n 1, 1) := by decide +kernel
theorem dX3_emit_23 : decode cX3_emit 23 = .ok (.iastore, 1) := by decide +kernel
theorem dX3_emit_24 : decode cX3_emit 24 = .ok (.aload_n 0, 1) := by decide +kernel
theorem dX3_emit_25 : decode cX3_emit 25 = .ok (.dup, 1) := by decide +kernel
theorem dX3_emit_26 : decode cX3_emit 26 = .ok (.getfield 25, 3) := by decide +kernel
theorem dX3_emit_29 : decode cX3_emit 29 = .ok (.iconst 1, 1) := by decide +kernel
theorem dX3_emit_30 : decode cX3_emit 30 = .ok (.iadd, 1) := by decide +kernel
theorem dX3_emit_31 : decode cX3_emit 31 = .ok (.putfield 25, 3) := by decide +kernel
theorem dX3_emit_34 : decode cX3_emit 34 = .ok (.iconst 1, 1) := by decide +kernel
theorem dX3_emit_35 : decode cX3_emit 35 = .ok (.ireturn, 1) := by decide +kernel
theorem dX1_init_0 : decode cX1_init 0 = .ok (.aload_n 0, 1) := by decide +kernel
theorem dX1_init_1 : decode cX1_init 1 = .ok (.invokespecial 3, 3) := by decide +kernel
theorem dX1_init_4 : decode cX1_init 4 = .ok (.aload_n 0, 1) := by decide +kernel
theorem dX1_init_5 : decode cX1_init 5 = .ok (.ldc 11, 2) := by decide +kernel
theorem dX1_init_7 : decode cX1_init 7 = .ok (.invokevirtual 13, 3) := by decide +kernel
theorem dX1_init_10 : decode cX1_init 10 = .ok (.newarray .int, 2) := by decide +kernel
theorem dX1_init_12 : decode cX1_init 12 = .ok (.putfield 19, 3) := by decide +kernel
theorem dX1_init_15 : decode cX1_init 15 = .ok (.aload_n 0, 1) := by decide +kernel
theorem dX1_init_16 : decode cX1_init 16 = .ok (.bipush 12, 2) := by decide +kernel
theorem dX1_init_18 : decode cX1_init 18 = .ok (.newarray .int, 2) := by decide +kernel
theorem dX1_init_20 : decode cX1_init 20 = .ok (.putfield 25, 3) := by decide +kernel
theorem dX1_init_23 : decode cX1_init 23 = .ok (.aload_n 0, 1) := by decide +kernel
theorem dX1_init_24 : decode cX1_init 24 = .ok (.aload_n 1, 1) := by decide +kernel
theorem dX1_init_25 : decode cX1_init 25 = .ok (.putfield 28, 3) := by decide +kernel
theorem dX1_init_28 : decode cX1_init 28 = .ok (.aload_n 0, 1) := by decide +kernel
theorem dX1_init_29 : decode cX1_init 29 = .ok (.aload_n 2, 1) := by decide +kernel
theorem dX1_init_30 : decode cX1_init 30 = .ok (.putfield 32, 3) := by decide +kernel
theorem dX1_init_33 : decode cX1_init 33 = .ok (.aload_n 0, 1) := by decide +kernel
theorem dX1_init_34 : decode cX1_init 34 = .ok (.aload_n 3, 1) := by decide +kernel
theorem dX1_init_35 : decode cX1_init 35 = .ok (.putfield 36, 3) := by decide +kernel
theorem dX1_init_38 : decode cX1_init 38 = .ok (.return_, 1) := by decide +kernel
theorem dX1_measure_0 : decode cX1_measure 0 = .ok (.aload_n 0, 1) := by decide +kernel
theorem dX1_measure_1 : decode cX1_measure 1 = .ok (.getfield 32, 3) := by decide +kernel
theorem dX1_measure_4 : decode cX1_measure 4 = .ok (.invokevirtual 40, 3) := by decide +kernel
theorem dX1_measure_7 : decode cX1_measure 7 = .ok (.istore_n 2, 1) := by decide +kernel
theorem dX1_measure_8 : decode cX1_measure 8 = .ok (.aload_n 0, 1) := by decide +kernel
theorem dX1_measure_9 : decode cX1_measure 9 = .ok (.getfield 19, 3) := by decide +kernel
theorem dX1_measure_12 : decode cX1_measure 12 = .ok (.iconst 4, 1) := by decide +kernel
theorem dX1_measure_13 : decode cX1_measure 13 = .ok (.aload_n 1, 1) := by decide +kernel
theorem dX1_measure_14 : decode cX1_measure 14 = .ok (.getfield 44, 3) := by decide +kernel
theorem dX1_measure_17 : decode cX1_measure 17 = .ok (.invokestatic 50, 3) := by decide +kernel
theorem dX1_measure_20 : decode cX1_measure 20 = .ok (.iastore, 1) := by decide +kernel
theorem dX1_measure_21 : decode cX1_measure 21 = .ok (.aload_n 0, 1) := by decide +kernel
theorem dX1_measure_22 : decode cX1_measure 22 = .ok (.getfield 19, 3) := by decide +kernel
theorem dX1_measure_25 : decode cX1_measure 25 = .ok (.iconst 5, 1) := by decide +kernel
theorem dX1_measure_26 : decode cX1_measure 26 = .ok (.aload_n 1, 1) := by decide +kernel
theorem dX1_measure_27 : decode cX1_measure 27 = .ok (.getfield 56, 3) := by decide +kernel
theorem dX1_measure_30 : decode cX1_measure 30 = .ok (.bipush 100, 2) := by decide +kernel
theorem dX1_measure_32 : decode cX1_measure 32 = .ok (.irem, 1) := by decide +kernel
theorem dX1_measure_33 : decode cX1_measure 33 = .ok (.iastore, 1) := by decide +kernel
theorem dX1_measure_34 : decode cX1_measure 34 = .ok (.iconst 0, 1) := by decide +kernel
theorem dX1_measure_35 : decode cX1_measure 35 = .ok (.istore_n 3, 1) := by decide +kernel
theorem dX1_measure_36 : decode cX1_measure 36 = .ok (.iload_n 3, 1) := by decide +kernel
theorem dX1_measure_37 : decode cX1_measure 37 = .ok (.aload_n 0, 1) := by decide +kernel
theorem dX1_measure_38 : decode cX1_measure 38 = .ok (.getfield 28, 3) := by decide +kernel
theorem dX1_measure_41 : decode cX1_measure 41 = .ok (.getfield 59, 3) := by decide +kernel
theorem dX1_measure_44 : decode cX1_measure 44 = .ok (.if_icmp .ge 75, 3) := by decide +kernel
theorem dX1_measure_47 : decode cX1_measure 47 = .ok (.iload_n 2, 1) := by decide +kernel
theorem dX1_measure_48 : decode cX1_measure 48 = .ok (.ifCond .eq 38, 3) := by decide +kernel
theorem dX1_measure_51 : decode cX1_measure 51 = .ok (.aload_n 0, 1) := by decide +kernel
theorem dX1_measure_52 : decode cX1_measure 52 = .ok (.iload_n 3, 1) := by decide +kernel
theorem dX1_measure_53 : decode cX1_measure 53 = .ok (.aload_n 1, 1) := by decide +kernel
theorem dX1_measure_54 : decode cX1_measure 54 = .ok (.invokevirtual 64, 3) := by decide +kernel
theorem dX1_measure_57 : decode cX1_measure 57 = .ok (.aload_n 0, 1) := by decide +kernel
theorem dX1_measure_58 : decode cX1_measure 58 = .ok (.getfield 25, 3) := by decide +kernel
theorem dX1_measure_61 : decode cX1_measure 61 = .ok (.iload_n 3, 1) := by decide +kernel
theorem dX1_measure_62 : decode cX1_measure 62 = .ok (.iconst 1, 1) := by decide +kernel
theorem dX1_measure_63 : decode cX1_measure 63 = .ok (.bipush 24, 2) := by decide +kernel
theorem dX1_measure_65 : decode cX1_measure 65 = .ok (.aload_n 0, 1) := by decide +kernel
theorem dX1_measure_66 : decode cX1_measure 66 = .ok (.getfield 32, 3) := by decide +kernel
theorem dX1_measure_69 : decode cX1_measure 69 = .ok (.aload_n 0, 1) := by decide +kernel
theorem dX1_measure_70 : decode cX1_measure 70 = .ok (.getfield 19, 3) := by decide +kernel
theorem dX1_measure_73 : decode cX1_measure 73 = .ok (.invokevirtual 68, 3) := by decide +kernel
theorem dX1_measure_76 : decode cX1_measure 76 = .ok (.invokestatic 72, 3) := by decide +kernel
theorem dX1_measure_79 : decode cX1_measure 79 = .ok (.invokestatic 78, 3) := by decide +kernel
theorem dX1_measure_82 : decode cX1_measure 82 = .ok (.iastore, 1) := by decide +kernel
theorem dX1_measure_83 : decode cX1_measure 83 = .ok (.goto 30, 3) := by decide +kernel
theorem dX1_measure_86 : decode cX1_measure 86 = .ok (.aload_n 0, 1) := by decide +kernel
theorem dX1_measure_87 : decode cX1_measure 87 = .ok (.getfield 25, 3) := by decide +kernel
theorem dX1_measure_90 : decode cX1_measure 90 = .ok (.iload_n 3, 1) := by decide +kernel
theorem dX1_measure_91 : decode cX1_measure 91 = .ok (.aload_n 0, 1) := by decide +kernel
theorem dX1_measure_92 : decode cX1_measure 92 = .ok (.getfield 28, 3) := by decide +kernel
theorem dX1_measure_95 : decode cX1_measure 95 = .ok (.getfield 81, 3) := by decide +kernel
theorem dX1_measure_98 : decode cX1_measure 98 = .ok (.iload_n 3, 1) := by decide +kernel
theorem dX1_measure_99 : decode cX1_measure 99 = .ok (.iaload, 1) := by decide +kernel
theorem dX1_measure_100 : decode cX1_measure 100 = .ok (.aload_n 0, 1) := by decide +kernel
theorem dX1_measure_101 : decode cX1_measure 101 = .ok (.getfield 28, 3) := by decide +kernel
theorem dX1_measure_104 : decode cX1_measure 104 = .ok (.getfield 83, 3) := by decide +kernel
theorem dX1_measure_107 : decode cX1_measure 107 = .ok (.iload_n 3, 1) := by decide +kernel
theorem dX1_measure_108 : decode cX1_measure 108 = .ok (.iaload, 1) := by decide +kernel
theorem dX1_measure_109 : decode cX1_measure 109 = .ok (.iconst 4, 1) := by decide +kernel
theorem dX1_measure_110 : decode cX1_measure 110 = .ok (.idiv, 1) := by decide +kernel
theorem dX1_measure_111 : decode cX1_measure 111 = .ok (.iadd, 1) := by decide +kernel
theorem dX1_measure_112 : decode cX1_measure 112 = .ok (.iastore, 1) := by decide +kernel
theorem dX1_measure_113 : decode cX1_measure 113 = .ok (.iinc 3 1, 3) := by decide +kernel
theorem dX1_measure_116 : decode cX1_measure 116 = .ok (.goto (-80), 3) := by decide +kernel
theorem dX1_measure_119 : decode cX1_measure 119 = .ok (.return_, 1) := by decide +kernel
theorem dX1_tellLetters_0 : decode cX1_tellLetters 0 = .ok (.aload_n 0, 1) := by decide +kernel
theorem dX1_tellLetters_1 : decode cX1_tellLetters 1 = .ok (.getfield 19, 3) := by decide +kernel
theorem dX1_tellLetters_4 : decode cX1_tellLetters 4 = .ok (.iconst 0, 1) := by decide +kernel
theorem dX1_tellLetters_5 : decode cX1_tellLetters 5 = .ok (.aload_n 0, 1) := by decide +kernel
theorem dX1_tellLetters_6 : decode cX1_tellLetters 6 = .ok (.getfield 28, 3) := by decide +kernel
theorem dX1_tellLetters_9 : decode cX1_tellLetters 9 = .ok (.getfield 81, 3) := by decide +kernel
theorem dX1_tellLetters_12 : decode cX1_tellLetters 12 = .ok (.iload_n 1, 1) := by decide +kernel
theorem dX1_tellLetters_13 : decode cX1_tellLetters 13 = .ok (.iaload, 1) := by decide +kernel
theorem dX1_tellLetters_14 : decode cX1_tellLetters 14 = .ok (.iastore, 1) := by decide +kernel
theorem dX1_tellLetters_15 : decode cX1_tellLetters 15 = .ok (.aload_n 0, 1) := by decide +kernel
theorem dX1_tellLetters_16 : decode cX1_tellLetters 16 = .ok (.getfield 19, 3) := by decide +kernel
theorem dX1_tellLetters_19 : decode cX1_tellLetters 19 = .ok (.iconst 1, 1) := by decide +kernel
theorem dX1_tellLetters_20 : decode cX1_tellLetters 20 = .ok (.aload_n 0, 1) := by decide +kernel
theorem dX1_tellLetters_21 : decode cX1_tellLetters 21 = .ok (.getfield 28, 3) := by decide +kernel
theorem dX1_tellLetters_24 : decode cX1_tellLetters 24 = .ok (.getfield 83, 3) := by decide +kernel
theorem dX1_tellLetters_27 : decode cX1_tellLetters 27 = .ok (.iload_n 1, 1) := by decide +kernel
theorem dX1_tellLetters_28 : decode cX1_tellLetters 28 = .ok (.iaload, 1) := by decide +kernel
theorem dX1_tellLetters_29 : decode cX1_tellLetters 29 = .ok (.iastore, 1) := by decide +kernel
theorem dX1_tellLetters_30 : decode cX1_tellLetters 30 = .ok (.aload_n 0, 1) := by decide +kernel
theorem dX1_tellLetters_31 : decode cX1_tellLetters 31 = .ok (.getfield 19, 3) := by decide +kernel
theorem dX1_tellLetters_34 : decode cX1_tellLetters 34 = .ok (.iconst 2, 1) := by decide +kernel
theorem dX1_tellLetters_35 : decode cX1_tellLetters 35 = .ok (.aload_n 2, 1) := by decide +kernel
theorem dX1_tellLetters_36 : decode cX1_tellLetters 36 = .ok (.getfield 86, 3) := by decide +kernel
theorem dX1_tellLetters_39 : decode cX1_tellLetters 39 = .ok (.iload_n 1, 1) := by decide +kernel
theorem dX1_tellLetters_40 : decode cX1_tellLetters 40 = .ok (.iaload, 1) := by decide +kernel
theorem dX1_tellLetters_41 : decode cX1_tellLetters 41 = .ok (.iastore, 1) := by decide +kernel
theorem dX1_tellLetters_42 : decode cX1_tellLetters 42 = .ok (.aload_n 0, 1) := by decide +kernel
theorem dX1_tellLetters_43 : decode cX1_tellLetters 43 = .ok (.getfield 19, 3) := by decide +kernel
theorem dX1_tellLetters_46 : decode cX1_tellLetters 46 = .ok (.iconst 3, 1) := by decide +kernel
theorem dX1_tellLetters_47 : decode cX1_tellLetters 47 = .ok (.aload_n 0, 1) := by decide +kernel
theorem dX1_tellLetters_48 : decode cX1_tellLetters 48 = .ok (.getfield 28, 3) := by decide +kernel
theorem dX1_tellLetters_51 : decode cX1_tellLetters 51 = .ok (.getfield 89, 3) := by decide +kernel
theorem dX1_tellLetters_54 : decode cX1_tellLetters 54 = .ok (.aload_n 0, 1) := by decide +kernel
theorem dX1_tellLetters_55 : decode cX1_tellLetters 55 = .ok (.getfield 28, 3) := by decide +kernel
theorem dX1_tellLetters_58 : decode cX1_tellLetters 58 = .ok (.getfield 92, 3) := by decide +kernel
theorem dX1_tellLetters_61 : decode cX1_tellLetters 61 = .ok (.iload_n 1, 1) := by decide +kernel
theorem dX1_tellLetters_62 : decode cX1_tellLetters 62 = .ok (.iaload, 1) := by decide +kernel
theorem dX1_tellLetters_63 : decode cX1_tellLetters 63 = .ok (.iaload, 1) := by decide +kernel
theorem dX1_tellLetters_64 : decode cX1_tellLetters 64 = .ok (.aload_n 0, 1) := by decide +kernel
theorem dX1_tellLetters_65 : decode cX1_tellLetters 65 = .ok (.getfield 28, 3) := by decide +kernel
theorem dX1_tellLetters_68 : decode cX1_tellLetters 68 = .ok (.getfield 89, 3) := by decide +kernel
theorem dX1_tellLetters_71 : decode cX1_tellLetters 71 = .ok (.aload_n 0, 1) := by decide +kernel
theorem dX1_tellLetters_72 : decode cX1_tellLetters 72 = .ok (.getfield 28, 3) := by decide +kernel
theorem dX1_tellLetters_75 : decode cX1_tellLetters 75 = .ok (.getfield 95, 3) := by decide +kernel
theorem dX1_tellLetters_78 : decode cX1_tellLetters 78 = .ok (.iload_n 1, 1) := by decide +kernel
theorem dX1_tellLetters_79 : decode cX1_tellLetters 79 = .ok (.iaload, 1) := by decide +kernel
theorem dX1_tellLetters_80 : decode cX1_tellLetters 80 = .ok (.iaload, 1) := by decide +kernel
theorem dX1_tellLetters_81 : decode cX1_tellLetters 81 = .ok (.iadd, 1) := by decide +kernel
theorem dX1_tellLetters_82 : decode cX1_tellLetters 82 = .ok (.iastore, 1) := by decide +kernel
theorem dX1_tellLetters_83 : decode cX1_tellLetters 83 = .ok (.return_, 1) := by decide +kernel
theorem dX1_pass_0 : decode cX1_pass 0 = .ok (.aload_n 0, 1) := by decide +kernel
theorem dX1_pass_1 : decode cX1_pass 1 = .ok (.aload_n 1, 1) := by decide +kernel
theorem dX1_pass_2 : decode cX1_pass 2 = .ok (.invokevirtual 98, 3) := by decide +kernel
theorem dX1_pass_5 : decode cX1_pass 5 = .ok (.iconst 0, 1) := by decide +kernel
theorem dX1_pass_6 : decode cX1_pass 6 = .ok (.istore_n 2, 1) := by decide +kernel
theorem dX1_pass_7 : decode cX1_pass 7 = .ok (.iconst 0, 1) := by decide +kernel
theorem dX1_pass_8 : decode cX1_pass 8 = .ok (.istore_n 3, 1) := by decide +kernel
theorem dX1_pass_9 : decode cX1_pass 9 = .ok (.iload_n 3, 1) := by decide +kernel
theorem dX1_pass_10 : decode cX1_pass 10 = .ok (.aload_n 0, 1) := by decide +kernel
theorem dX1_pass_11 : decode cX1_pass 11 = .ok (.getfield 28, 3) := by decide +kernel
theorem dX1_pass_14 : decode cX1_pass 14 = .ok (.getfield 102, 3) := by decide +kernel
theorem dX1_pass_17 : decode cX1_pass 17 = .ok (.if_icmp .ge 18, 3) := by decide +kernel
theorem dX1_pass_20 : decode cX1_pass 20 = .ok (.iload_n 2, 1) := by decide +kernel
theorem dX1_pass_21 : decode cX1_pass 21 = .ok (.aload_n 0, 1) := by decide +kernel
theorem dX1_pass_22 : decode cX1_pass 22 = .ok (.iload_n 3, 1) := by decide +kernel
theorem dX1_pass_23 : decode cX1_pass 23 = .ok (.aload_n 1, 1) := by decide +kernel
theorem dX1_pass_24 : decode cX1_pass 24 = .ok (.invokevirtual 105, 3) := by decide +kernel
theorem dX1_pass_27 : decode cX1_pass 27 = .ok (.iadd, 1) := by decide +kernel
theorem dX1_pass_28 : decode cX1_pass 28 = .ok (.istore_n 2, 1) := by decide +kernel
theorem dX1_pass_29 : decode cX1_pass 29 = .ok (.iinc 3 1, 3) := by decide +kernel
theorem dX1_pass_32 : decode cX1_pass 32 = .ok (.goto (-23), 3) := by decide +kernel
theorem dX1_pass_35 : decode cX1_pass 35 = .ok (.aload_n 1, 1) := by decide +kernel
theorem dX1_pass_36 : decode cX1_pass 36 = .ok (.dup, 1) := by decide +kernel
theorem dX1_pass_37 : decode cX1_pass 37 = .ok (.getfield 56, 3) := by decide +kernel
theorem dX1_pass_40 : decode cX1_pass 40 = .ok (.iconst 1, 1) := by decide +kernel
theorem dX1_pass_41 : decode cX1_pass 41 = .ok (.iadd, 1) := by decide +kernel
theorem dX1_pass_42 : decode cX1_pass 42 = .ok (.putfield 56, 3) := by decide +kernel
theorem dX1_pass_45 : decode cX1_pass 45 = .ok (.iload_n 2, 1) := by decide +kernel
theorem dX1_pass_46 : decode cX1_pass 46 = .ok (.ireturn, 1) := by decide +kernel
theorem dX1_passOf_0 : decode cX1_passOf 0 = .ok (.aload_n 2, 1) := by decide +kernel
theorem dX1_passOf_1 : decode cX1_passOf 1 = .ok (.getfield 109, 3) := by decide +kernel
theorem dX1_passOf_4 : decode cX1_passOf 4 = .ok (.iload_n 1, 1) := by decide +kernel
theorem dX1_passOf_5 : decode cX1_passOf 5 = .ok (.iaload, 1) := by decide +kernel
theorem dX1_passOf_6 : decode cX1_passOf 6 = .ok (.istore_n 3, 1) := by decide +kernel
theorem dX1_passOf_7 : decode cX1_passOf 7 = .ok (.aload_n 0, 1) := by decide +kernel
theorem dX1_passOf_8 : decode cX1_passOf 8 = .ok (.getfield 36, 3) := by decide +kernel
theorem dX1_passOf_11 : decode cX1_passOf 11 = .ok (.iload_n 3, 1) := by decide +kernel
theorem dX1_passOf_12 : decode cX1_passOf 12 = .ok (.invokevirtual 112, 3) := by decide +kernel
theorem dX1_passOf_15 : decode cX1_passOf 15 = .ok (.ifCond .ne 5, 3) := by decide +kernel
theorem dX1_passOf_18 : decode cX1_passOf 18 = .ok (.iconst 0, 1) := by decide +kernel
theorem dX1_passOf_19 : decode cX1_passOf 19 = .ok (.ireturn, 1) := by decide +kernel
theorem dX1_passOf_20 : decode cX1_passOf 20 = .ok (.iconst 0, 1) := by decide +kernel
theorem dX1_passOf_21 : decode cX1_passOf 21 = .ok (.istore 4, 2) := by decide +kernel
theorem dX1_passOf_23 : decode cX1_passOf 23 = .ok (.iconst 0, 1) := by decide +kernel
theorem dX1_passOf_24 : decode cX1_passOf 24 = .ok (.istore 5, 2) := by decide +kernel
theorem dX1_passOf_26 : decode cX1_passOf 26 = .ok (.aload_n 2, 1) := by decide +kernel
theorem dX1_passOf_27 : decode cX1_passOf 27 = .ok (.getfield 118, 3) := by decide +kernel
theorem dX1_passOf_30 : decode cX1_passOf 30 = .ok (.iload_n 1, 1) := by decide +kernel
theorem dX1_passOf_31 : decode cX1_passOf 31 = .ok (.iaload, 1) := by decide +kernel
theorem dX1_passOf_32 : decode cX1_passOf 32 = .ok (.istore 6, 2) := by decide +kernel
theorem dX1_passOf_34 : decode cX1_passOf 34 = .ok (.iload 6, 2) := by decide +kernel
theorem dX1_passOf_36 : decode cX1_passOf 36 = .ok (.aload_n 0, 1) := by decide +kernel
theorem dX1_passOf_37 : decode cX1_passOf 37 = .ok (.getfield 36, 3) := by decide +kernel
theorem dX1_passOf_40 : decode cX1_passOf 40 = .ok (.getfield 121, 3) := by decide +kernel
theorem dX1_passOf_43 : decode cX1_passOf 43 = .ok (.iload_n 3, 1) := by decide +kernel
theorem dX1_passOf_44 : decode cX1_passOf 44 = .ok (.iaload, 1) := by decide +kernel
theorem dX1_passOf_45 : decode cX1_passOf 45 = .ok (.if_icmp .ge 141, 3) := by decide +kernel
theorem dX1_passOf_48 : decode cX1_passOf 48 = .ok (.aload_n 0, 1) := by decide +kernel
theorem dX1_passOf_49 : decode cX1_passOf 49 = .ok (.getfield 36, 3) := by decide +kernel
theorem dX1_passOf_52 : decode cX1_passOf 52 = .ok (.iload_n 3, 1) := by decide +kernel
theorem dX1_passOf_53 : decode cX1_passOf 53 = .ok (.iload 6, 2) := by decide +kernel
theorem dX1_passOf_55 : decode cX1_passOf 55 = .ok (.invokevirtual 124, 3) := by decide +kernel
theorem dX1_passOf_58 : decode cX1_passOf 58 = .ok (.istore 7, 2) := by decide +kernel
theorem dX1_passOf_60 : decode cX1_passOf 60 = .ok (.iload 7, 2) := by decide +kernel
theorem dX1_passOf_62 : decode cX1_passOf 62 = .ok (.aload_n 2, 1) := by decide +kernel
theorem dX1_passOf_63 : decode cX1_passOf 63 = .ok (.getfield 127, 3) := by decide +kernel
theorem dX1_passOf_66 : decode cX1_passOf 66 = .ok (.iload_n 1, 1) := by decide +kernel
theorem dX1_passOf_67 : decode cX1_passOf 67 = .ok (.iaload, 1) := by decide +kernel
theorem dX1_passOf_68 : decode cX1_passOf 68 = .ok (.if_icmp .eq 92, 3) := by decide +kernel
theorem dX1_passOf_71 : decode cX1_passOf 71 = .ok (.aload_n 0, 1) := by decide +kernel
theorem dX1_passOf_72 : decode cX1_passOf 72 = .ok (.aload_n 2, 1) := by decide +kernel
theorem dX1_passOf_73 : decode cX1_passOf 73 = .ok (.getfield 127, 3) := by decide +kernel
theorem dX1_passOf_76 : decode cX1_passOf 76 = .ok (.iload_n 1, 1) := by decide +kernel
theorem dX1_passOf_77 : decode cX1_passOf 77 = .ok (.iaload, 1) := by decide +kernel
theorem dX1_passOf_78 : decode cX1_passOf 78 = .ok (.iload 7, 2) := by decide +kernel
theorem dX1_passOf_80 : decode cX1_passOf 80 = .ok (.aload_n 2, 1) := by decide +kernel
theorem dX1_passOf_81 : decode cX1_passOf 81 = .ok (.getfield 44, 3) := by decide +kernel
theorem dX1_passOf_84 : decode cX1_passOf 84 = .ok (.invokevirtual 130, 3) := by decide +kernel
theorem dX1_passOf_87 : decode cX1_passOf 87 = .ok (.istore 8, 2) := by decide +kernel
theorem dX1_passOf_89 : decode cX1_passOf 89 = .ok (.iload 8, 2) := by decide +kernel
theorem dX1_passOf_91 : decode cX1_passOf 91 = .ok (.iconst (-1), 1) := by decide +kernel
theorem dX1_passOf_92 : decode cX1_passOf 92 = .ok (.if_icmp .eq 23, 3) := by decide +kernel
theorem dX1_passOf_95 : decode cX1_passOf 95 = .ok (.iload 5, 2) := by decide +kernel
theorem dX1_passOf_97 : decode cX1_passOf 97 = .ok (.aload_n 0, 1) := by decide +kernel
theorem dX1_passOf_98 : decode cX1_passOf 98 = .ok (.getfield 25, 3) := by decide +kernel
theorem dX1_passOf_101 : decode cX1_passOf 101 = .ok (.iload 8, 2) := by decide +kernel
theorem dX1_passOf_103 : decode cX1_passOf 103 = .ok (.iaload, 1) := by decide +kernel
theorem dX1_passOf_104 : decode cX1_passOf 104 = .ok (.iadd, 1) := by decide +kernel
theorem dX1_passOf_105 : decode cX1_passOf 105 = .ok (.aload_n 0, 1) := by decide +kernel
theorem dX1_passOf_106 : decode cX1_passOf 106 = .ok (.getfield 28, 3) := by decide +kernel
theorem dX1_passOf_109 : decode cX1_passOf 109 = .ok (.getfield 134, 3) := by decide +kernel
theorem dX1_passOf_112 : decode cX1_passOf 112 = .ok (.if_icmp .le 6, 3) := by decide +kernel
theorem dX1_passOf_115 : decode cX1_passOf 115 = .ok (.iload 4, 2) := by decide +kernel
theorem dX1_passOf_117 : decode cX1_passOf 117 = .ok (.ireturn, 1) := by decide +kernel
theorem dX1_passOf_118 : decode cX1_passOf 118 = .ok (.iload 5, 2) := by decide +kernel
theorem dX1_passOf_120 : decode cX1_passOf 120 = .ok (.aload_n 0, 1) := by decide +kernel
theorem dX1_passOf_121 : decode cX1_passOf 121 = .ok (.getfield 25, 3) := by decide +kernel
theorem dX1_passOf_124 : decode cX1_passOf 124 = .ok (.iload 8, 2) := by decide +kernel
theorem dX1_passOf_126 : decode cX1_passOf 126 = .ok (.iaload, 1) := by decide +kernel
theorem dX1_passOf_127 : decode cX1_passOf 127 = .ok (.iadd, 1) := by decide +kernel
theorem dX1_passOf_128 : decode cX1_passOf 128 = .ok (.istore 5, 2) := by decide +kernel
theorem dX1_passOf_130 : decode cX1_passOf 130 = .ok (.aload_n 2, 1) := by decide +kernel
theorem dX1_passOf_131 : decode cX1_passOf 131 = .ok (.getfield 86, 3) := by decide +kernel
theorem dX1_passOf_134 : decode cX1_passOf 134 = .ok (.iload 8, 2) := by decide +kernel
theorem dX1_passOf_136 : decode cX1_passOf 136 = .ok (.sipush 999, 3) := by decide +kernel
theorem dX1_passOf_139 : decode cX1_passOf 139 = .ok (.aload_n 2, 1) := by decide +kernel
theorem dX1_passOf_140 : decode cX1_passOf 140 = .ok (.getfield 86, 3) := by decide +kernel
theorem dX1_passOf_143 : decode cX1_passOf 143 = .ok (.iload 8, 2) := by decide +kernel
theorem dX1_passOf_145 : decode cX1_passOf 145 = .ok (.iaload, 1) := by decide +kernel
theorem dX1_passOf_146 : decode cX1_passOf 146 = .ok (.iconst 1, 1) := by decide +kernel
theorem dX1_passOf_147 : decode cX1_passOf 147 = .ok (.iadd, 1) := by decide +kernel
theorem dX1_passOf_148 : decode cX1_passOf 148 = .ok (.invokestatic 72, 3) := by decide +kernel
theorem dX1_passOf_151 : decode cX1_passOf 151 = .ok (.iastore, 1) := by decide +kernel
theorem dX1_passOf_152 : decode cX1_passOf 152 = .ok (.aload_n 2, 1) := by decide +kernel
theorem dX1_passOf_153 : decode cX1_passOf 153 = .ok (.getfield 127, 3) := by decide +kernel
theorem dX1_passOf_156 : decode cX1_passOf 156 = .ok (.iload_n 1, 1) := by decide +kernel
theorem dX1_passOf_157 : decode cX1_passOf 157 = .ok (.iload 7, 2) := by decide +kernel
theorem dX1_passOf_159 : decode cX1_passOf 159 = .ok (.iastore, 1) := by decide +kernel
theorem dX1_passOf_160 : decode cX1_passOf 160 = .ok (.aload_n 0, 1) := by decide +kernel
theorem dX1_passOf_161 : decode cX1_passOf 161 = .ok (.iload 7, 2) := by decide +kernel
theorem dX1_passOf_163 : decode cX1_passOf 163 = .ok (.aload_n 2, 1) := by decide +kernel
theorem dX1_passOf_164 : decode cX1_passOf 164 = .ok (.invokevirtual 137, 3) := by decide +kernel
theorem dX1_passOf_167 : decode cX1_passOf 167 = .ok (.iinc 4 1, 3) := by decide +kernel
theorem dX1_passOf_170 : decode cX1_passOf 170 = .ok (.aload_n 2, 1) := by decide +kernel
theorem dX1_passOf_171 : decode cX1_passOf 171 = .ok (.getfield 118, 3) := by decide +kernel
theorem dX1_passOf_174 : decode cX1_passOf 174 = .ok (.iload_n 1, 1) := by decide +kernel
theorem dX1_passOf_175 : decode cX1_passOf 175 = .ok (.iload 6, 2) := by decide +kernel
theorem dX1_passOf_177 : decode cX1_passOf 177 = .ok (.iconst 1, 1) := by decide +kernel
theorem dX1_passOf_178 : decode cX1_passOf 178 = .ok (.iadd, 1) := by decide +kernel
theorem dX1_passOf_179 : decode cX1_passOf 179 = .ok (.iastore, 1) := by decide +kernel
theorem dX1_passOf_180 : decode cX1_passOf 180 = .ok (.iinc 6 1, 3) := by decide +kernel
theorem dX1_passOf_183 : decode cX1_passOf 183 = .ok (.goto (-149), 3) := by decide +kernel
theorem dX1_passOf_186 : decode cX1_passOf 186 = .ok (.aload_n 2, 1) := by decide +kernel
theorem dX1_passOf_187 : decode cX1_passOf 187 = .ok (.iload_n 1, 1) := by decide +kernel
theorem dX1_passOf_188 : decode cX1_passOf 188 = .ok (.invokevirtual 140, 3) := by decide +kernel
theorem dX1_passOf_191 : decode cX1_passOf 191 = .ok (.iload 4, 2) := by decide +kernel
theorem dX1_passOf_193 : decode cX1_passOf 193 = .ok (.ireturn, 1) := by decide +kernel
theorem dX1_shortestBetween_0 : decode cX1_shortestBetween 0 = .ok (.iconst (-1), 1) := by decide +kernel
theorem dX1_shortestBetween_1 : decode cX1_shortestBetween 1 = .ok (.istore 4, 2) := by decide +kernel
theorem dX1_shortestBetween_3 : decode cX1_shortestBetween 3 = .ok (.iconst 0, 1) := by decide +kernel
theorem dX1_shortestBetween_4 : decode cX1_shortestBetween 4 = .ok (.istore 5, 2) := by decide +kernel
theorem dX1_shortestBetween_6 : decode cX1_shortestBetween 6 = .ok (.iload 5, 2) := by decide +kernel
theorem dX1_shortestBetween_8 : decode cX1_shortestBetween 8 = .ok (.aload_n 0, 1) := by decide +kernel
theorem dX1_shortestBetween_9 : decode cX1_shortestBetween 9 = .ok (.getfield 28, 3) := by decide +kernel
theorem dX1_shortestBetween_12 : decode cX1_shortestBetween 12 = .ok (.getfield 59, 3) := by decide +kernel
theorem dX1_shortestBetween_15 : decode cX1_shortestBetween 15 = .ok (.if_icmp .ge 71, 3) := by decide +kernel
theorem dX1_shortestBetween_18 : decode cX1_shortestBetween 18 = .ok (.iload_n 3, 1) := by decide +kernel
theorem dX1_shortestBetween_19 : decode cX1_shortestBetween 19 = .ok (.iload 5, 2) := by decide +kernel
theorem dX1_shortestBetween_21 : decode cX1_shortestBetween 21 = .ok (.ishr, 1) := by decide +kernel
theorem dX1_shortestBetween_22 : decode cX1_shortestBetween 22 = .ok (.iconst 1, 1) := by decide +kernel
theorem dX1_shortestBetween_23 : decode cX1_shortestBetween 23 = .ok (.iand, 1) := by decide +kernel
theorem dX1_shortestBetween_24 : decode cX1_shortestBetween 24 = .ok (.ifCond .ne 21, 3) := by decide +kernel
theorem dX1_shortestBetween_27 : decode cX1_shortestBetween 27 = .ok (.aload_n 0, 1) := by decide +kernel
theorem dX1_shortestBetween_28 : decode cX1_shortestBetween 28 = .ok (.getfield 28, 3) := by decide +kernel
theorem dX1_shortestBetween_31 : decode cX1_shortestBetween 31 = .ok (.iload 5, 2) := by decide +kernel
theorem dX1_shortestBetween_33 : decode cX1_shortestBetween 33 = .ok (.iload_n 1, 1) := by decide +kernel
theorem dX1_shortestBetween_34 : decode cX1_shortestBetween 34 = .ok (.iload_n 2, 1) := by decide +kernel
theorem dX1_shortestBetween_35 : decode cX1_shortestBetween 35 = .ok (.invokevirtual 144, 3) := by decide +kernel
theorem dX1_shortestBetween_38 : decode cX1_shortestBetween 38 = .ok (.ifCond .eq 7, 3) := by decide +kernel
theorem dX1_shortestBetween_41 : decode cX1_shortestBetween 41 = .ok (.iconst 1, 1) := by decide +kernel
theorem dX1_shortestBetween_42 : decode cX1_shortestBetween 42 = .ok (.goto 4, 3) := by decide +kernel
theorem dX1_shortestBetween_45 : decode cX1_shortestBetween 45 = .ok (.iconst 0, 1) := by decide +kernel
theorem dX1_shortestBetween_46 : decode cX1_shortestBetween 46 = .ok (.istore 6, 2) := by decide +kernel
theorem dX1_shortestBetween_48 : decode cX1_shortestBetween 48 = .ok (.iload 6, 2) := by decide +kernel
theorem dX1_shortestBetween_50 : decode cX1_shortestBetween 50 = .ok (.ifCond .eq 30, 3) := by decide +kernel
theorem dX1_shortestBetween_53 : decode cX1_shortestBetween 53 = .ok (.iload 4, 2) := by decide +kernel
theorem dX1_shortestBetween_55 : decode cX1_shortestBetween 55 = .ok (.iconst (-1), 1) := by decide +kernel
theorem dX1_shortestBetween_56 : decode cX1_shortestBetween 56 = .ok (.if_icmp .eq 20, 3) := by decide +kernel
theorem dX1_shortestBetween_59 : decode cX1_shortestBetween 59 = .ok (.aload_n 0, 1) := by decide +kernel
theorem dX1_shortestBetween_60 : decode cX1_shortestBetween 60 = .ok (.getfield 25, 3) := by decide +kernel
theorem dX1_shortestBetween_63 : decode cX1_shortestBetween 63 = .ok (.iload 5, 2) := by decide +kernel
theorem dX1_shortestBetween_65 : decode cX1_shortestBetween 65 = .ok (.iaload, 1) := by decide +kernel
theorem dX1_shortestBetween_66 : decode cX1_shortestBetween 66 = .ok (.aload_n 0, 1) := by decide +kernel
theorem dX1_shortestBetween_67 : decode cX1_shortestBetween 67 = .ok (.getfield 25, 3) := by decide +kernel
theorem dX1_shortestBetween_70 : decode cX1_shortestBetween 70 = .ok (.iload 4, 2) := by decide +kernel
theorem dX1_shortestBetween_72 : decode cX1_shortestBetween 72 = .ok (.iaload, 1) := by decide +kernel
theorem dX1_shortestBetween_73 : decode cX1_shortestBetween 73 = .ok (.if_icmp .ge 7, 3) := by decide +kernel
theorem dX1_shortestBetween_76 : decode cX1_shortestBetween 76 = .ok (.iload 5, 2) := by decide +kernel
theorem dX1_shortestBetween_78 : decode cX1_shortestBetween 78 = .ok (.istore 4, 2) := by decide +kernel
theorem dX1_shortestBetween_80 : decode cX1_shortestBetween 80 = .ok (.iinc 5 1, 3) := by decide +kernel
theorem dX1_shortestBetween_83 : decode cX1_shortestBetween 83 = .ok (.goto (-77), 3) := by decide +kernel
theorem dX1_shortestBetween_86 : decode cX1_shortestBetween 86 = .ok (.iload 4, 2) := by decide +kernel
theorem dX1_shortestBetween_88 : decode cX1_shortestBetween 88 = .ok (.ireturn, 1) := by decide +kernel
theorem dX1_callAt_0 : decode cX1_callAt 0 = .ok (.aload_n 0, 1) := by decide +kernel
theorem dX1_callAt_1 : decode cX1_callAt 1 = .ok (.getfield 28, 3) := by decide +kernel
theorem dX1_callAt_4 : decode cX1_callAt 4 = .ok (.iload_n 1, 1) := by decide +kernel
theorem dX1_callAt_5 : decode cX1_callAt 5 = .ok (.invokevirtual 148, 3) := by decide +kernel
theorem dX1_callAt_8 : decode cX1_callAt 8 = .ok (.ifCond .ne 4, 3) := by decide +kernel
theorem dX1_callAt_11 : decode cX1_callAt 11 = .ok (.return_, 1) := by decide +kernel
theorem dX1_callAt_12 : decode cX1_callAt 12 = .ok (.aload_n 2, 1) := by decide +kernel
theorem dX1_callAt_13 : decode cX1_callAt 13 = .ok (.getfield 151, 3) := by decide +kernel
theorem dX1_callAt_16 : decode cX1_callAt 16 = .ok (.iload_n 1, 1) := by decide +kernel
theorem dX1_callAt_17 : decode cX1_callAt 17 = .ok (.sipush 999, 3) := by decide +kernel
theorem dX1_callAt_20 : decode cX1_callAt 20 = .ok (.aload_n 2, 1) := by decide +kernel
theorem dX1_callAt_21 : decode cX1_callAt 21 = .ok (.getfield 151, 3) := by decide +kernel
theorem dX1_callAt_24 : decode cX1_callAt 24 = .ok (.iload_n 1, 1) := by decide +kernel
theorem dX1_callAt_25 : decode cX1_callAt 25 = .ok (.iaload, 1) := by decide +kernel
theorem dX1_callAt_26 : decode cX1_callAt 26 = .ok (.iconst 1, 1) := by decide +kernel
theorem dX1_callAt_27 : decode cX1_callAt 27 = .ok (.iadd, 1) := by decide +kernel
theorem dX1_callAt_28 : decode cX1_callAt 28 = .ok (.invokestatic 72, 3) := by decide +kernel
theorem dX1_callAt_31 : decode cX1_callAt 31 = .ok (.iastore, 1) := by decide +kernel
theorem dX1_callAt_32 : decode cX1_callAt 32 = .ok (.aload_n 0, 1) := by decide +kernel
theorem dX1_callAt_33 : decode cX1_callAt 33 = .ok (.getfield 28, 3) := by decide +kernel
theorem dX1_callAt_36 : decode cX1_callAt 36 = .ok (.getfield 89, 3) := by decide +kernel
theorem dX1_callAt_39 : decode cX1_callAt 39 = .ok (.iload_n 1, 1) := by decide +kernel
theorem dX1_callAt_40 : decode cX1_callAt 40 = .ok (.iaload, 1) := by decide +kernel
theorem dX1_callAt_41 : decode cX1_callAt 41 = .ok (.ifCond .le 19, 3) := by decide +kernel
theorem dX1_callAt_44 : decode cX1_callAt 44 = .ok (.aload_n 2, 1) := by decide +kernel
theorem dX1_callAt_45 : decode cX1_callAt 45 = .ok (.sipush 999, 3) := by decide +kernel
theorem dX1_callAt_48 : decode cX1_callAt 48 = .ok (.aload_n 2, 1) := by decide +kernel
theorem dX1_callAt_49 : decode cX1_callAt 49 = .ok (.getfield 154, 3) := by decide +kernel
theorem dX1_callAt_52 : decode cX1_callAt 52 = .ok (.iconst 1, 1) := by decide +kernel
theorem dX1_callAt_53 : decode cX1_callAt 53 = .ok (.iadd, 1) := by decide +kernel
theorem dX1_callAt_54 : decode cX1_callAt 54 = .ok (.invokestatic 72, 3) := by decide +kernel
theorem dX1_callAt_57 : decode cX1_callAt 57 = .ok (.putfield 154, 3) := by decide +kernel
theorem dX1_callAt_60 : decode cX1_callAt 60 = .ok (.return_, 1) := by decide +kernel
theorem dX5_init_0 : decode cX5_init 0 = .ok (.aload_n 0, 1) := by decide +kernel
theorem dX5_init_1 : decode cX5_init 1 = .ok (.invokespecial 3, 3) := by decide +kernel
theorem dX5_init_4 : decode cX5_init 4 = .ok (.aload_n 0, 1) := by decide +kernel
theorem dX5_init_5 : decode cX5_init 5 = .ok (.bipush 7, 2) := by decide +kernel
theorem dX5_init_7 : decode cX5_init 7 = .ok (.bipush 7, 2) := by decide +kernel
theorem dX5_init_9 : decode cX5_init 9 = .ok (.multianewarray 9 2, 4) := by decide +kernel
theorem dX5_init_13 : decode cX5_init 13 = .ok (.putfield 11, 3) := by decide +kernel
theorem dX5_init_16 : decode cX5_init 16 = .ok (.aload_n 0, 1) := by decide +kernel
theorem dX5_init_17 : decode cX5_init 17 = .ok (.bipush 7, 2) := by decide +kernel
theorem dX5_init_19 : decode cX5_init 19 = .ok (.bipush 7, 2) := by decide +kernel
theorem dX5_init_21 : decode cX5_init 21 = .ok (.multianewarray 9 2, 4) := by decide +kernel
theorem dX5_init_25 : decode cX5_init 25 = .ok (.putfield 16, 3) := by decide +kernel
theorem dX5_init_28 : decode cX5_init 28 = .ok (.aload_n 0, 1) := by decide +kernel
theorem dX5_init_29 : decode cX5_init 29 = .ok (.bipush 7, 2) := by decide +kernel
theorem dX5_init_31 : decode cX5_init 31 = .ok (.newarray .int, 2) := by decide +kernel
theorem dX5_init_33 : decode cX5_init 33 = .ok (.putfield 19, 3) := by decide +kernel
theorem dX5_init_36 : decode cX5_init 36 = .ok (.aload_n 0, 1) := by decide +kernel
theorem dX5_init_37 : decode cX5_init 37 = .ok (.aload_n 1, 1) := by decide +kernel
theorem dX5_init_38 : decode cX5_init 38 = .ok (.putfield 23, 3) := by decide +kernel
theorem dX5_init_41 : decode cX5_init 41 = .ok (.aload_n 0, 1) := by decide +kernel
theorem dX5_init_42 : decode cX5_init 42 = .ok (.aload_n 2, 1) := by decide +kernel
theorem dX5_init_43 : decode cX5_init 43 = .ok (.putfield 27, 3) := by decide +kernel
theorem dX5_init_46 : decode cX5_init 46 = .ok (.return_, 1) := by decide +kernel
theorem dX5_measure_0 : decode cX5_measure 0 = .ok (.aload_n 0, 1) := by decide +kernel
theorem dX5_measure_1 : decode cX5_measure 1 = .ok (.getfield 27, 3) := by decide +kernel
theorem dX5_measure_4 : decode cX5_measure 4 = .ok (.aload_n 1, 1) := by decide +kernel
theorem dX5_measure_5 : decode cX5_measure 5 = .ok (.invokevirtual 31, 3) := by decide +kernel
theorem dX5_measure_8 : decode cX5_measure 8 = .ok (.aload_n 0, 1) := by decide +kernel
theorem dX5_measure_9 : decode cX5_measure 9 = .ok (.aload_n 0, 1) := by decide +kernel
theorem dX5_measure_10 : decode cX5_measure 10 = .ok (.getfield 23, 3) := by decide +kernel
theorem dX5_measure_13 : decode cX5_measure 13 = .ok (.invokevirtual 37, 3) := by decide +kernel
theorem dX5_measure_16 : decode cX5_measure 16 = .ok (.aload_n 1, 1) := by decide +kernel
theorem dX5_measure_17 : decode cX5_measure 17 = .ok (.getfield 43, 3) := by decide +kernel
theorem dX5_measure_20 : decode cX5_measure 20 = .ok (.iconst (-1), 1) := by decide +kernel
theorem dX5_measure_21 : decode cX5_measure 21 = .ok (.ixor, 1) := by decide +kernel
theorem dX5_measure_22 : decode cX5_measure 22 = .ok (.iand, 1) := by decide +kernel
theorem dX5_measure_23 : decode cX5_measure 23 = .ok (.putfield 49, 3) := by decide +kernel
theorem dX5_measure_26 : decode cX5_measure 26 = .ok (.iconst 0, 1) := by decide +kernel
theorem dX5_measure_27 : decode cX5_measure 27 = .ok (.istore_n 2, 1) := by decide +kernel
theorem dX5_measure_28 : decode cX5_measure 28 = .ok (.iload_n 2, 1) := by decide +kernel
theorem dX5_measure_29 : decode cX5_measure 29 = .ok (.aload_n 0, 1) := by decide +kernel
theorem dX5_measure_30 : decode cX5_measure 30 = .ok (.getfield 23, 3) := by decide +kernel
theorem dX5_measure_33 : decode cX5_measure 33 = .ok (.getfield 52, 3) := by decide +kernel
theorem dX5_measure_36 : decode cX5_measure 36 = .ok (.if_icmp .ge 97, 3) := by decide +kernel
theorem dX5_measure_39 : decode cX5_measure 39 = .ok (.iconst 0, 1) := by decide +kernel
theorem dX5_measure_40 : decode cX5_measure 40 = .ok (.istore_n 3, 1) := by decide +kernel
theorem dX5_measure_41 : decode cX5_measure 41 = .ok (.iload_n 3, 1) := by decide +kernel
theorem dX5_measure_42 : decode cX5_measure 42 = .ok (.aload_n 0, 1) := by decide +kernel
theorem dX5_measure_43 : decode cX5_measure 43 = .ok (.getfield 23, 3) := by decide +kernel
theorem dX5_measure_46 : decode cX5_measure 46 = .ok (.getfield 52, 3) := by decide +kernel
theorem dX5_measure_49 : decode cX5_measure 49 = .ok (.if_icmp .ge 78, 3) := by decide +kernel
theorem dX5_measure_52 : decode cX5_measure 52 = .ok (.aload_n 0, 1) := by decide +kernel
theorem dX5_measure_53 : decode cX5_measure 53 = .ok (.getfield 27, 3) := by decide +kernel
theorem dX5_measure_56 : decode cX5_measure 56 = .ok (.iload_n 2, 1) := by decide +kernel
theorem dX5_measure_57 : decode cX5_measure 57 = .ok (.iload_n 3, 1) := by decide +kernel
theorem dX5_measure_58 : decode cX5_measure 58 = .ok (.aload_n 1, 1) := by decide +kernel
theorem dX5_measure_59 : decode cX5_measure 59 = .ok (.getfield 43, 3) := by decide +kernel
theorem dX5_measure_62 : decode cX5_measure 62 = .ok (.invokevirtual 55, 3) := by decide +kernel
theorem dX5_measure_65 : decode cX5_measure 65 = .ok (.istore 4, 2) := by decide +kernel
theorem dX5_measure_67 : decode cX5_measure 67 = .ok (.aload_n 0, 1) := by decide +kernel
theorem dX5_measure_68 : decode cX5_measure 68 = .ok (.getfield 11, 3) := by decide +kernel
theorem dX5_measure_71 : decode cX5_measure 71 = .ok (.iload_n 2, 1) := by decide +kernel
theorem dX5_measure_72 : decode cX5_measure 72 = .ok (.aaload, 1) := by decide +kernel
theorem dX5_measure_73 : decode cX5_measure 73 = .ok (.iload_n 3, 1) := by decide +kernel
theorem dX5_measure_74 : decode cX5_measure 74 = .ok (.iload 4, 2) := by decide +kernel
theorem dX5_measure_76 : decode cX5_measure 76 = .ok (.iconst (-1), 1) := by decide +kernel
theorem dX5_measure_77 : decode cX5_measure 77 = .ok (.if_icmp .ne 8, 3) := by decide +kernel
theorem dX5_measure_80 : decode cX5_measure 80 = .ok (.ldc 59, 2) := by decide +kernel
theorem dX5_measure_82 : decode cX5_measure 82 = .ok (.goto 13, 3) := by decide +kernel
theorem dX5_measure_85 : decode cX5_measure 85 = .ok (.aload_n 0, 1) := by decide +kernel
theorem dX5_measure_86 : decode cX5_measure 86 = .ok (.getfield 27, 3) := by decide +kernel
theorem dX5_measure_89 : decode cX5_measure 89 = .ok (.getfield 60, 3) := by decide +kernel
theorem dX5_measure_92 : decode cX5_measure 92 = .ok (.iload 4, 2) := by decide +kernel
theorem dX5_measure_94 : decode cX5_measure 94 = .ok (.iaload, 1) := by decide +kernel
theorem dX5_measure_95 : decode cX5_measure 95 = .ok (.iastore, 1) := by decide +kernel
theorem dX5_measure_96 : decode cX5_measure 96 = .ok (.aload_n 0, 1) := by decide +kernel
theorem dX5_measure_97 : decode cX5_measure 97 = .ok (.getfield 16, 3) := by decide +kernel
theorem dX5_measure_100 : decode cX5_measure 100 = .ok (.iload_n 2, 1) := by decide +kernel
theorem dX5_measure_101 : decode cX5_measure 101 = .ok (.aaload, 1) := by decide +kernel
theorem dX5_measure_102 : decode cX5_measure 102 = .ok (.iload_n 3, 1) := by decide +kernel
theorem dX5_measure_103 : decode cX5_measure 103 = .ok (.iload_n 2, 1) := by decide +kernel
theorem dX5_measure_104 : decode cX5_measure 104 = .ok (.iload_n 3, 1) := by decide +kernel
theorem dX5_measure_105 : decode cX5_measure 105 = .ok (.if_icmp .ne 7, 3) := by decide +kernel
theorem dX5_measure_108 : decode cX5_measure 108 = .ok (.iconst 0, 1) := by decide +kernel
theorem dX5_measure_109 : decode cX5_measure 109 = .ok (.goto 11, 3) := by decide +kernel
theorem dX5_measure_112 : decode cX5_measure 112 = .ok (.aload_n 0, 1) := by decide +kernel
theorem dX5_measure_113 : decode cX5_measure 113 = .ok (.getfield 11, 3) := by decide +kernel
theorem dX5_measure_116 : decode cX5_measure 116 = .ok (.iload_n 2, 1) := by decide +kernel
theorem dX5_measure_117 : decode cX5_measure 117 = .ok (.aaload, 1) := by decide +kernel
theorem dX5_measure_118 : decode cX5_measure 118 = .ok (.iload_n 3, 1) := by decide +kernel
theorem dX5_measure_119 : decode cX5_measure 119 = .ok (.iaload, 1) := by decide +kernel
theorem dX5_measure_120 : decode cX5_measure 120 = .ok (.iastore, 1) := by decide +kernel
theorem dX5_measure_121 : decode cX5_measure 121 = .ok (.iinc 3 1, 3) := by decide +kernel
theorem dX5_measure_124 : decode cX5_measure 124 = .ok (.goto (-83), 3) := by decide +kernel
theorem dX5_measure_127 : decode cX5_measure 127 = .ok (.iinc 2 1, 3) := by decide +kernel
theorem dX5_measure_130 : decode cX5_measure 130 = .ok (.goto (-102), 3) := by decide +kernel
theorem dX5_measure_133 : decode cX5_measure 133 = .ok (.iconst 0, 1) := by decide +kernel
theorem dX5_measure_134 : decode cX5_measure 134 = .ok (.istore_n 2, 1) := by decide +kernel
theorem dX5_measure_135 : decode cX5_measure 135 = .ok (.iload_n 2, 1) := by decide +kernel
theorem dX5_measure_136 : decode cX5_measure 136 = .ok (.aload_n 0, 1) := by decide +kernel
theorem dX5_measure_137 : decode cX5_measure 137 = .ok (.getfield 23, 3) := by decide +kernel
theorem dX5_measure_140 : decode cX5_measure 140 = .ok (.getfield 52, 3) := by decide +kernel
theorem dX5_measure_143 : decode cX5_measure 143 = .ok (.if_icmp .ge 14, 3) := by decide +kernel
theorem dX5_measure_146 : decode cX5_measure 146 = .ok (.aload_n 0, 1) := by decide +kernel
theorem dX5_measure_147 : decode cX5_measure 147 = .ok (.iload_n 2, 1) := by decide +kernel
theorem dX5_measure_148 : decode cX5_measure 148 = .ok (.invokevirtual 63, 3) := by decide +kernel
theorem dX5_measure_151 : decode cX5_measure 151 = .ok (.iinc 2 1, 3) := by decide +kernel
theorem dX5_measure_154 : decode cX5_measure 154 = .ok (.goto (-19), 3) := by decide +kernel
theorem dX5_measure_157 : decode cX5_measure 157 = .ok (.return_, 1) := by decide +kernel
theorem dX5_shortenBy_0 : decode cX5_shortenBy 0 = .ok (.iconst 0, 1) := by decide +kernel
theorem dX5_shortenBy_1 : decode cX5_shortenBy 1 = .ok (.istore_n 2, 1) := by decide +kernel
theorem dX5_shortenBy_2 : decode cX5_shortenBy 2 = .ok (.iload_n 2, 1) := by decide +kernel
theorem dX5_shortenBy_3 : decode cX5_shortenBy 3 = .ok (.aload_n 0, 1) := by decide +kernel
theorem dX5_shortenBy_4 : decode cX5_shortenBy 4 = .ok (.getfield 23, 3) := by decide +kernel
theorem dX5_shortenBy_7 : decode cX5_shortenBy 7 = .ok (.getfield 52, 3) := by decide +kernel
theorem dX5_shortenBy_10 : decode cX5_shortenBy 10 = .ok (.if_icmp .ge 70, 3) := by decide +kernel
theorem dX5_shortenBy_13 : decode cX5_shortenBy 13 = .ok (.iconst 0, 1) := by decide +kernel
theorem dX5_shortenBy_14 : decode cX5_shortenBy 14 = .ok (.istore_n 3, 1) := by decide +kernel
theorem dX5_shortenBy_15 : decode cX5_shortenBy 15 = .ok (.iload_n 3, 1) := by decide +kernel
theorem dX5_shortenBy_16 : decode cX5_shortenBy 16 = .ok (.aload_n 0, 1) := by decide +kernel
theorem dX5_shortenBy_17 : decode cX5_shortenBy 17 = .ok (.getfield 23, 3) := by decide +kernel
theorem dX5_shortenBy_20 : decode cX5_shortenBy 20 = .ok (.getfield 52, 3) := by decide +kernel
theorem dX5_shortenBy_23 : decode cX5_shortenBy 23 = .ok (.if_icmp .ge 51, 3) := by decide +kernel
theorem dX5_shortenBy_26 : decode cX5_shortenBy 26 = .ok (.aload_n 0, 1) := by decide +kernel
theorem dX5_shortenBy_27 : decode cX5_shortenBy 27 = .ok (.getfield 16, 3) := by decide +kernel
theorem dX5_shortenBy_30 : decode cX5_shortenBy 30 = .ok (.iload_n 2, 1) := by decide +kernel
theorem dX5_shortenBy_31 : decode cX5_shortenBy 31 = .ok (.aaload, 1) := by decide +kernel
theorem dX5_shortenBy_32 : decode cX5_shortenBy 32 = .ok (.iload_n 1, 1) := by decide +kernel
theorem dX5_shortenBy_33 : decode cX5_shortenBy 33 = .ok (.iaload, 1) := by decide +kernel
theorem dX5_shortenBy_34 : decode cX5_shortenBy 34 = .ok (.aload_n 0, 1) := by decide +kernel
theorem dX5_shortenBy_35 : decode cX5_shortenBy 35 = .ok (.getfield 16, 3) := by decide +kernel
theorem dX5_shortenBy_38 : decode cX5_shortenBy 38 = .ok (.iload_n 1, 1) := by decide +kernel
theorem dX5_shortenBy_39 : decode cX5_shortenBy 39 = .ok (.aaload, 1) := by decide +kernel
theorem dX5_shortenBy_40 : decode cX5_shortenBy 40 = .ok (.iload_n 3, 1) := by decide +kernel
theorem dX5_shortenBy_41 : decode cX5_shortenBy 41 = .ok (.iaload, 1) := by decide +kernel
theorem dX5_shortenBy_42 : decode cX5_shortenBy 42 = .ok (.iadd, 1) := by decide +kernel
theorem dX5_shortenBy_43 : decode cX5_shortenBy 43 = .ok (.istore 4, 2) := by decide +kernel
theorem dX5_shortenBy_45 : decode cX5_shortenBy 45 = .ok (.iload 4, 2) := by decide +kernel
theorem dX5_shortenBy_47 : decode cX5_shortenBy 47 = .ok (.aload_n 0, 1) := by decide +kernel
theorem dX5_shortenBy_48 : decode cX5_shortenBy 48 = .ok (.getfield 16, 3) := by decide +kernel
theorem dX5_shortenBy_51 : decode cX5_shortenBy 51 = .ok (.iload_n 2, 1) := by decide +kernel
theorem dX5_shortenBy_52 : decode cX5_shortenBy 52 = .ok (.aaload, 1) := by decide +kernel
theorem dX5_shortenBy_53 : decode cX5_shortenBy 53 = .ok (.iload_n 3, 1) := by decide +kernel
theorem dX5_shortenBy_54 : decode cX5_shortenBy 54 = .ok (.iaload, 1) := by decide +kernel
theorem dX5_shortenBy_55 : decode cX5_shortenBy 55 = .ok (.if_icmp .ge 13, 3) := by decide +kernel
theorem dX5_shortenBy_58 : decode cX5_shortenBy 58 = .ok (.aload_n 0, 1) := by decide +kernel
theorem dX5_shortenBy_59 : decode cX5_shortenBy 59 = .ok (.getfield 16, 3) := by decide +kernel
theorem dX5_shortenBy_62 : decode cX5_shortenBy 62 = .ok (.iload_n 2, 1) := by decide +kernel
theorem dX5_shortenBy_63 : decode cX5_shortenBy 63 = .ok (.aaload, 1) := by decide +kernel
theorem dX5_shortenBy_64 : decode cX5_shortenBy 64 = .ok (.iload_n 3, 1) := by decide +kernel
theorem dX5_shortenBy_65 : decode cX5_shortenBy 65 = .ok (.iload 4, 2) := by decide +kernel
theorem dX5_shortenBy_67 : decode cX5_shortenBy 67 = .ok (.iastore, 1) := by decide +kernel
theorem dX5_shortenBy_68 : decode cX5_shortenBy 68 = .ok (.iinc 3 1, 3) := by decide +kernel
theorem dX5_shortenBy_71 : decode cX5_shortenBy 71 = .ok (.goto (-56), 3) := by decide +kernel
theorem dX5_shortenBy_74 : decode cX5_shortenBy 74 = .ok (.iinc 2 1, 3) := by decide +kernel
theorem dX5_shortenBy_77 : decode cX5_shortenBy 77 = .ok (.goto (-75), 3) := by decide +kernel
theorem dX5_shortenBy_80 : decode cX5_shortenBy 80 = .ok (.return_, 1) := by decide +kernel
theorem dX5_reaches_0 : decode cX5_reaches 0 = .ok (.aload_n 0, 1) := by decide +kernel
theorem dX5_reaches_1 : decode cX5_reaches 1 = .ok (.getfield 16, 3) := by decide +kernel
theorem dX5_reaches_4 : decode cX5_reaches 4 = .ok (.iload_n 1, 1) := by decide +kernel
theorem dX5_reaches_5 : decode cX5_reaches 5 = .ok (.aaload, 1) := by decide +kernel
theorem dX5_reaches_6 : decode cX5_reaches 6 = .ok (.iload_n 2, 1) := by decide +kernel
theorem dX5_reaches_7 : decode cX5_reaches 7 = .ok (.iaload, 1) := by decide +kernel
theorem dX5_reaches_8 : decode cX5_reaches 8 = .ok (.ldc 59, 2) := by decide +kernel
theorem dX5_reaches_10 : decode cX5_reaches 10 = .ok (.if_icmp .ge 7, 3) := by decide +kernel
theorem dX5_reaches_13 : decode cX5_reaches 13 = .ok (.iconst 1, 1) := by decide +kernel
theorem dX5_reaches_14 : decode cX5_reaches 14 = .ok (.goto 4, 3) := by decide +kernel
theorem dX5_reaches_17 : decode cX5_reaches 17 = .ok (.iconst 0, 1) := by decide +kernel
theorem dX5_reaches_18 : decode cX5_reaches 18 = .ok (.ireturn, 1) := by decide +kernel
theorem dX5_shortestRow_0 : decode cX5_shortestRow 0 = .ok (.aload_n 0, 1) := by decide +kernel
theorem dX5_shortestRow_1 : decode cX5_shortestRow 1 = .ok (.iload_n 2, 1) := by decide +kernel
theorem dX5_shortestRow_2 : decode cX5_shortestRow 2 = .ok (.invokevirtual 67, 3) := by decide +kernel
theorem dX5_shortestRow_5 : decode cX5_shortestRow 5 = .ok (.iload_n 1, 1) := by decide +kernel
theorem dX5_shortestRow_6 : decode cX5_shortestRow 6 = .ok (.istore_n 3, 1) := by decide +kernel
theorem dX5_shortestRow_7 : decode cX5_shortestRow 7 = .ok (.iload_n 1, 1) := by decide +kernel
theorem dX5_shortestRow_8 : decode cX5_shortestRow 8 = .ok (.istore 4, 2) := by decide +kernel
theorem dX5_shortestRow_10 : decode cX5_shortestRow 10 = .ok (.iconst 0, 1) := by decide +kernel
theorem dX5_shortestRow_11 : decode cX5_shortestRow 11 = .ok (.istore 5, 2) := by decide +kernel
theorem dX5_shortestRow_13 : decode cX5_shortestRow 13 = .ok (.iload 5, 2) := by decide +kernel
theorem dX5_shortestRow_15 : decode cX5_shortestRow 15 = .ok (.aload_n 0, 1) := by decide +kernel
theorem dX5_shortestRow_16 : decode cX5_shortestRow 16 = .ok (.getfield 23, 3) := by decide +kernel
theorem dX5_shortestRow_19 : decode cX5_shortestRow 19 = .ok (.getfield 52, 3) := by decide +kernel
theorem dX5_shortestRow_22 : decode cX5_shortestRow 22 = .ok (.if_icmp .ge 32, 3) := by decide +kernel
theorem dX5_shortestRow_25 : decode cX5_shortestRow 25 = .ok (.iload 4, 2) := by decide +kernel
theorem dX5_shortestRow_27 : decode cX5_shortestRow 27 = .ok (.iload_n 2, 1) := by decide +kernel
theorem dX5_shortestRow_28 : decode cX5_shortestRow 28 = .ok (.if_icmp .eq 26, 3) := by decide +kernel
theorem dX5_shortestRow_31 : decode cX5_shortestRow 31 = .ok (.aload_n 0, 1) := by decide +kernel
theorem dX5_shortestRow_32 : decode cX5_shortestRow 32 = .ok (.iload 4, 2) := by decide +kernel
theorem dX5_shortestRow_34 : decode cX5_shortestRow 34 = .ok (.iload_n 2, 1) := by decide +kernel
theorem dX5_shortestRow_35 : decode cX5_shortestRow 35 = .ok (.invokevirtual 70, 3) := by decide +kernel
theorem dX5_shortestRow_38 : decode cX5_shortestRow 38 = .ok (.istore 4, 2) := by decide +kernel
theorem dX5_shortestRow_40 : decode cX5_shortestRow 40 = .ok (.iload_n 3, 1) := by decide +kernel
theorem dX5_shortestRow_41 : decode cX5_shortestRow 41 = .ok (.bipush 10, 2) := by decide +kernel
theorem dX5_shortestRow_43 : decode cX5_shortestRow 43 = .ok (.imul, 1) := by decide +kernel
theorem dX5_shortestRow_44 : decode cX5_shortestRow 44 = .ok (.iload 4, 2) := by decide +kernel
theorem dX5_shortestRow_46 : decode cX5_shortestRow 46 = .ok (.iadd, 1) := by decide +kernel
theorem dX5_shortestRow_47 : decode cX5_shortestRow 47 = .ok (.istore_n 3, 1) := by decide +kernel
theorem dX5_shortestRow_48 : decode cX5_shortestRow 48 = .ok (.iinc 5 1, 3) := by decide +kernel
theorem dX5_shortestRow_51 : decode cX5_shortestRow 51 = .ok (.goto (-38), 3) := by decide +kernel
theorem dX5_shortestRow_54 : decode cX5_shortestRow 54 = .ok (.iload_n 3, 1) := by decide +kernel
theorem dX5_shortestRow_55 : decode cX5_shortestRow 55 = .ok (.ireturn, 1) := by decide +kernel
theorem dX5_countPlacesTo_0 : decode cX5_countPlacesTo 0 = .ok (.iconst 0, 1) := by decide +kernel
theorem dX5_countPlacesTo_1 : decode cX5_countPlacesTo 1 = .ok (.istore_n 2, 1) := by decide +kernel
theorem dX5_countPlacesTo_2 : decode cX5_countPlacesTo 2 = .ok (.iload_n 2, 1) := by decide +kernel
theorem dX5_countPlacesTo_3 : decode cX5_countPlacesTo 3 = .ok (.aload_n 0, 1) := by decide +kernel
theorem dX5_countPlacesTo_4 : decode cX5_countPlacesTo 4 = .ok (.getfield 23, 3) := by decide +kernel
theorem dX5_countPlacesTo_7 : decode cX5_countPlacesTo 7 = .ok (.getfield 52, 3) := by decide +kernel
theorem dX5_countPlacesTo_10 : decode cX5_countPlacesTo 10 = .ok (.if_icmp .ge 26, 3) := by decide +kernel
theorem dX5_countPlacesTo_13 : decode cX5_countPlacesTo 13 = .ok (.aload_n 0, 1) := by decide +kernel
theorem dX5_countPlacesTo_14 : decode cX5_countPlacesTo 14 = .ok (.getfield 19, 3) := by decide +kernel
theorem dX5_countPlacesTo_17 : decode cX5_countPlacesTo 17 = .ok (.iload_n 2, 1) := by decide +kernel
theorem dX5_countPlacesTo_18 : decode cX5_countPlacesTo 18 = .ok (.iload_n 2, 1) := by decide +kernel
theorem dX5_countPlacesTo_19 : decode cX5_countPlacesTo 19 = .ok (.iload_n 1, 1) := by decide +kernel
theorem dX5_countPlacesTo_20 : decode cX5_countPlacesTo 20 = .ok (.if_icmp .ne 7, 3) := by decide +kernel
theorem dX5_countPlacesTo_23 : decode cX5_countPlacesTo 23 = .ok (.iconst 0, 1) := by decide +kernel
theorem dX5_countPlacesTo_24 : decode cX5_countPlacesTo 24 = .ok (.goto 5, 3) := by decide +kernel
theorem dX5_countPlacesTo_27 : decode cX5_countPlacesTo 27 = .ok (.bipush 7, 2) := by decide +kernel
theorem dX5_countPlacesTo_29 : decode cX5_countPlacesTo 29 = .ok (.iastore, 1) := by decide +kernel
theorem dX5_countPlacesTo_30 : decode cX5_countPlacesTo 30 = .ok (.iinc 2 1, 3) := by decide +kernel
theorem dX5_countPlacesTo_33 : decode cX5_countPlacesTo 33 = .ok (.goto (-31), 3) := by decide +kernel
theorem dX5_countPlacesTo_36 : decode cX5_countPlacesTo 36 = .ok (.iconst 1, 1) := by decide +kernel
theorem dX5_countPlacesTo_37 : decode cX5_countPlacesTo 37 = .ok (.istore_n 2, 1) := by decide +kernel
theorem dX5_countPlacesTo_38 : decode cX5_countPlacesTo 38 = .ok (.iload_n 2, 1) := by decide +kernel
theorem dX5_countPlacesTo_39 : decode cX5_countPlacesTo 39 = .ok (.aload_n 0, 1) := by decide +kernel
theorem dX5_countPlacesTo_40 : decode cX5_countPlacesTo 40 = .ok (.getfield 23, 3) := by decide +kernel
theorem dX5_countPlacesTo_43 : decode cX5_countPlacesTo 43 = .ok (.getfield 52, 3) := by decide +kernel
theorem dX5_countPlacesTo_46 : decode cX5_countPlacesTo 46 = .ok (.if_icmp .ge 84, 3) := by decide +kernel
theorem dX5_countPlacesTo_49 : decode cX5_countPlacesTo 49 = .ok (.iconst 0, 1) := by decide +kernel
theorem dX5_countPlacesTo_50 : decode cX5_countPlacesTo 50 = .ok (.istore_n 3, 1) := by decide +kernel
theorem dX5_countPlacesTo_51 : decode cX5_countPlacesTo 51 = .ok (.iload_n 3, 1) := by decide +kernel
theorem dX5_countPlacesTo_52 : decode cX5_countPlacesTo 52 = .ok (.aload_n 0, 1) := by decide +kernel
theorem dX5_countPlacesTo_53 : decode cX5_countPlacesTo 53 = .ok (.getfield 23, 3) := by decide +kernel
theorem dX5_countPlacesTo_56 : decode cX5_countPlacesTo 56 = .ok (.getfield 52, 3) := by decide +kernel
theorem dX5_countPlacesTo_59 : decode cX5_countPlacesTo 59 = .ok (.if_icmp .ge 65, 3) := by decide +kernel
theorem dX5_countPlacesTo_62 : decode cX5_countPlacesTo 62 = .ok (.iconst 0, 1) := by decide +kernel
theorem dX5_countPlacesTo_63 : decode cX5_countPlacesTo 63 = .ok (.istore 4, 2) := by decide +kernel
theorem dX5_countPlacesTo_65 : decode cX5_countPlacesTo 65 = .ok (.iload 4, 2) := by decide +kernel
theorem dX5_countPlacesTo_67 : decode cX5_countPlacesTo 67 = .ok (.aload_n 0, 1) := by decide +kernel
theorem dX5_countPlacesTo_68 : decode cX5_countPlacesTo 68 = .ok (.getfield 23, 3) := by decide +kernel
theorem dX5_countPlacesTo_71 : decode cX5_countPlacesTo 71 = .ok (.getfield 52, 3) := by decide +kernel
theorem dX5_countPlacesTo_74 : decode cX5_countPlacesTo 74 = .ok (.if_icmp .ge 44, 3) := by decide +kernel
theorem dX5_countPlacesTo_77 : decode cX5_countPlacesTo 77 = .ok (.aload_n 0, 1) := by decide +kernel
theorem dX5_countPlacesTo_78 : decode cX5_countPlacesTo 78 = .ok (.iload_n 3, 1) := by decide +kernel
theorem dX5_countPlacesTo_79 : decode cX5_countPlacesTo 79 = .ok (.iload 4, 2) := by decide +kernel
theorem dX5_countPlacesTo_81 : decode cX5_countPlacesTo 81 = .ok (.iload_n 1, 1) := by decide +kernel
theorem dX5_countPlacesTo_82 : decode cX5_countPlacesTo 82 = .ok (.invokevirtual 74, 3) := by decide +kernel
theorem dX5_countPlacesTo_85 : decode cX5_countPlacesTo 85 = .ok (.ifCond .eq 27, 3) := by decide +kernel
theorem dX5_countPlacesTo_88 : decode cX5_countPlacesTo 88 = .ok (.aload_n 0, 1) := by decide +kernel
theorem dX5_countPlacesTo_89 : decode cX5_countPlacesTo 89 = .ok (.getfield 19, 3) := by decide +kernel
theorem dX5_countPlacesTo_92 : decode cX5_countPlacesTo 92 = .ok (.iload_n 3, 1) := by decide +kernel
theorem dX5_countPlacesTo_93 : decode cX5_countPlacesTo 93 = .ok (.aload_n 0, 1) := by decide +kernel
theorem dX5_countPlacesTo_94 : decode cX5_countPlacesTo 94 = .ok (.getfield 19, 3) := by decide +kernel
theorem dX5_countPlacesTo_97 : decode cX5_countPlacesTo 97 = .ok (.iload_n 3, 1) := by decide +kernel
theorem dX5_countPlacesTo_98 : decode cX5_countPlacesTo 98 = .ok (.iaload, 1) := by decide +kernel
theorem dX5_countPlacesTo_99 : decode cX5_countPlacesTo 99 = .ok (.aload_n 0, 1) := by decide +kernel
theorem dX5_countPlacesTo_100 : decode cX5_countPlacesTo 100 = .ok (.getfield 19, 3) := by decide +kernel
theorem dX5_countPlacesTo_103 : decode cX5_countPlacesTo 103 = .ok (.iload 4, 2) := by decide +kernel
theorem dX5_countPlacesTo_105 : decode cX5_countPlacesTo 105 = .ok (.iaload, 1) := by decide +kernel
theorem dX5_countPlacesTo_106 : decode cX5_countPlacesTo 106 = .ok (.iconst 1, 1) := by decide +kernel
theorem dX5_countPlacesTo_107 : decode cX5_countPlacesTo 107 = .ok (.iadd, 1) := by decide +kernel
theorem dX5_countPlacesTo_108 : decode cX5_countPlacesTo 108 = .ok (.invokestatic 78, 3) := by decide +kernel
theorem dX5_countPlacesTo_111 : decode cX5_countPlacesTo 111 = .ok (.iastore, 1) := by decide +kernel
theorem dX5_countPlacesTo_112 : decode cX5_countPlacesTo 112 = .ok (.iinc 4 1, 3) := by decide +kernel
theorem dX5_countPlacesTo_115 : decode cX5_countPlacesTo 115 = .ok (.goto (-50), 3) := by decide +kernel
theorem dX5_countPlacesTo_118 : decode cX5_countPlacesTo 118 = .ok (.iinc 3 1, 3) := by decide +kernel
theorem dX5_countPlacesTo_121 : decode cX5_countPlacesTo 121 = .ok (.goto (-70), 3) := by decide +kernel
theorem dX5_countPlacesTo_124 : decode cX5_countPlacesTo 124 = .ok (.iinc 2 1, 3) := by decide +kernel
theorem dX5_countPlacesTo_127 : decode cX5_countPlacesTo 127 = .ok (.goto (-89), 3) := by decide +kernel
theorem dX5_countPlacesTo_130 : decode cX5_countPlacesTo 130 = .ok (.return_, 1) := by decide +kernel
theorem dX5_leadsOn_0 : decode cX5_leadsOn 0 = .ok (.aload_n 0, 1) := by decide +kernel
theorem dX5_leadsOn_1 : decode cX5_leadsOn 1 = .ok (.iload_n 1, 1) := by decide +kernel
theorem dX5_leadsOn_2 : decode cX5_leadsOn 2 = .ok (.iload_n 3, 1) := by decide +kernel
theorem dX5_leadsOn_3 : decode cX5_leadsOn 3 = .ok (.invokevirtual 83, 3) := by decide +kernel
theorem dX5_leadsOn_6 : decode cX5_leadsOn 6 = .ok (.ifCond .eq 35, 3) := by decide +kernel
theorem dX5_leadsOn_9 : decode cX5_leadsOn 9 = .ok (.aload_n 0, 1) := by decide +kernel
theorem dX5_leadsOn_10 : decode cX5_leadsOn 10 = .ok (.getfield 11, 3) := by decide +kernel
theorem dX5_leadsOn_13 : decode cX5_leadsOn 13 = .ok (.iload_n 1, 1) := by decide +kernel
theorem dX5_leadsOn_14 : decode cX5_leadsOn 14 = .ok (.aaload, 1) := by decide +kernel
theorem dX5_leadsOn_15 : decode cX5_leadsOn 15 = .ok (.iload_n 2, 1) := by decide +kernel
theorem dX5_leadsOn_16 : decode cX5_leadsOn 16 = .ok (.iaload, 1) := by decide +kernel
theorem dX5_leadsOn_17 : decode cX5_leadsOn 17 = .ok (.aload_n 0, 1) := by decide +kernel
theorem dX5_leadsOn_18 : decode cX5_leadsOn 18 = .ok (.getfield 16, 3) := by decide +kernel
theorem dX5_leadsOn_21 : decode cX5_leadsOn 21 = .ok (.iload_n 2, 1) := by decide +kernel
theorem dX5_leadsOn_22 : decode cX5_leadsOn 22 = .ok (.aaload, 1) := by decide +kernel
theorem dX5_leadsOn_23 : decode cX5_leadsOn 23 = .ok (.iload_n 3, 1) := by decide +kernel
theorem dX5_leadsOn_24 : decode cX5_leadsOn 24 = .ok (.iaload, 1) := by decide +kernel
theorem dX5_leadsOn_25 : decode cX5_leadsOn 25 = .ok (.iadd, 1) := by decide +kernel
theorem dX5_leadsOn_26 : decode cX5_leadsOn 26 = .ok (.aload_n 0, 1) := by decide +kernel
theorem dX5_leadsOn_27 : decode cX5_leadsOn 27 = .ok (.getfield 16, 3) := by decide +kernel
theorem dX5_leadsOn_30 : decode cX5_leadsOn 30 = .ok (.iload_n 1, 1) := by decide +kernel
theorem dX5_leadsOn_31 : decode cX5_leadsOn 31 = .ok (.aaload, 1) := by decide +kernel
theorem dX5_leadsOn_32 : decode cX5_leadsOn 32 = .ok (.iload_n 3, 1) := by decide +kernel
theorem dX5_leadsOn_33 : decode cX5_leadsOn 33 = .ok (.iaload, 1) := by decide +kernel
theorem dX5_leadsOn_34 : decode cX5_leadsOn 34 = .ok (.if_icmp .ne 7, 3) := by decide +kernel
theorem dX5_leadsOn_37 : decode cX5_leadsOn 37 = .ok (.iconst 1, 1) := by decide +kernel
theorem dX5_leadsOn_38 : decode cX5_leadsOn 38 = .ok (.goto 4, 3) := by decide +kernel
theorem dX5_leadsOn_41 : decode cX5_leadsOn 41 = .ok (.iconst 0, 1) := by decide +kernel
theorem dX5_leadsOn_42 : decode cX5_leadsOn 42 = .ok (.ireturn, 1) := by decide +kernel
theorem dX5_nextOnRow_0 : decode cX5_nextOnRow 0 = .ok (.iconst 0, 1) := by decide +kernel
theorem dX5_nextOnRow_1 : decode cX5_nextOnRow 1 = .ok (.istore_n 3, 1) := by decide +kernel
theorem dX5_nextOnRow_2 : decode cX5_nextOnRow 2 = .ok (.iload_n 3, 1) := by decide +kernel
theorem dX5_nextOnRow_3 : decode cX5_nextOnRow 3 = .ok (.aload_n 0, 1) := by decide +kernel
theorem dX5_nextOnRow_4 : decode cX5_nextOnRow 4 = .ok (.getfield 23, 3) := by decide +kernel
theorem dX5_nextOnRow_7 : decode cX5_nextOnRow 7 = .ok (.getfield 52, 3) := by decide +kernel
theorem dX5_nextOnRow_10 : decode cX5_nextOnRow 10 = .ok (.if_icmp .ge 38, 3) := by decide +kernel
theorem dX5_nextOnRow_13 : decode cX5_nextOnRow 13 = .ok (.aload_n 0, 1) := by decide +kernel
theorem dX5_nextOnRow_14 : decode cX5_nextOnRow 14 = .ok (.iload_n 1, 1) := by decide +kernel
theorem dX5_nextOnRow_15 : decode cX5_nextOnRow 15 = .ok (.iload_n 3, 1) := by decide +kernel
theorem dX5_nextOnRow_16 : decode cX5_nextOnRow 16 = .ok (.iload_n 2, 1) := by decide +kernel
theorem dX5_nextOnRow_17 : decode cX5_nextOnRow 17 = .ok (.invokevirtual 74, 3) := by decide +kernel
theorem dX5_nextOnRow_20 : decode cX5_nextOnRow 20 = .ok (.ifCond .eq 22, 3) := by decide +kernel
theorem dX5_nextOnRow_23 : decode cX5_nextOnRow 23 = .ok (.aload_n 0, 1) := by decide +kernel
theorem dX5_nextOnRow_24 : decode cX5_nextOnRow 24 = .ok (.getfield 19, 3) := by decide +kernel
theorem dX5_nextOnRow_27 : decode cX5_nextOnRow 27 = .ok (.iload_n 3, 1) := by decide +kernel
theorem dX5_nextOnRow_28 : decode cX5_nextOnRow 28 = .ok (.iaload, 1) := by decide +kernel
theorem dX5_nextOnRow_29 : decode cX5_nextOnRow 29 = .ok (.iconst 1, 1) := by decide +kernel
theorem dX5_nextOnRow_30 : decode cX5_nextOnRow 30 = .ok (.iadd, 1) := by decide +kernel
theorem dX5_nextOnRow_31 : decode cX5_nextOnRow 31 = .ok (.aload_n 0, 1) := by decide +kernel
theorem dX5_nextOnRow_32 : decode cX5_nextOnRow 32 = .ok (.getfield 19, 3) := by decide +kernel
theorem dX5_nextOnRow_35 : decode cX5_nextOnRow 35 = .ok (.iload_n 1, 1) := by decide +kernel
theorem dX5_nextOnRow_36 : decode cX5_nextOnRow 36 = .ok (.iaload, 1) := by decide +kernel
theorem dX5_nextOnRow_37 : decode cX5_nextOnRow 37 = .ok (.if_icmp .ne 5, 3) := by decide +kernel
theorem dX5_nextOnRow_40 : decode cX5_nextOnRow 40 = .ok (.iload_n 3, 1) := by decide +kernel
theorem dX5_nextOnRow_41 : decode cX5_nextOnRow 41 = .ok (.ireturn, 1) := by decide +kernel
theorem dX5_nextOnRow_42 : decode cX5_nextOnRow 42 = .ok (.iinc 3 1, 3) := by decide +kernel
theorem dX5_nextOnRow_45 : decode cX5_nextOnRow 45 = .ok (.goto (-43), 3) := by decide +kernel
theorem dX5_nextOnRow_48 : decode cX5_nextOnRow 48 = .ok (.iload_n 2, 1) := by decide +kernel
theorem dX5_nextOnRow_49 : decode cX5_nextOnRow 49 = .ok (.ireturn, 1) := by decide +kernel
theorem dX5_reachedFrom_0 : decode cX5_reachedFrom 0 = .ok (.iconst 1, 1) := by decide +kernel
theorem dX5_reachedFrom_1 : decode cX5_reachedFrom 1 = .ok (.iload_n 1, 1) := by decide +kernel
theorem dX5_reachedFrom_2 : decode cX5_reachedFrom 2 = .ok (.ishl, 1) := by decide +kernel
theorem dX5_reachedFrom_3 : decode cX5_reachedFrom 3 = .ok (.istore_n 3, 1) := by decide +kernel
theorem dX5_reachedFrom_4 : decode cX5_reachedFrom 4 = .ok (.iconst 1, 1) := by decide +kernel
theorem dX5_reachedFrom_5 : decode cX5_reachedFrom 5 = .ok (.istore 4, 2) := by decide +kernel
theorem dX5_reachedFrom_7 : decode cX5_reachedFrom 7 = .ok (.iload 4, 2) := by decide +kernel
theorem dX5_reachedFrom_9 : decode cX5_reachedFrom 9 = .ok (.aload_n 0, 1) := by decide +kernel
theorem dX5_reachedFrom_10 : decode cX5_reachedFrom 10 = .ok (.getfield 23, 3) := by decide +kernel
theorem dX5_reachedFrom_13 : decode cX5_reachedFrom 13 = .ok (.getfield 52, 3) := by decide +kernel
theorem dX5_reachedFrom_16 : decode cX5_reachedFrom 16 = .ok (.if_icmp .ge 89, 3) := by decide +kernel
theorem dX5_reachedFrom_19 : decode cX5_reachedFrom 19 = .ok (.iload_n 3, 1) := by decide +kernel
theorem dX5_reachedFrom_20 : decode cX5_reachedFrom 20 = .ok (.istore 5, 2) := by decide +kernel
theorem dX5_reachedFrom_22 : decode cX5_reachedFrom 22 = .ok (.iconst 0, 1) := by decide +kernel
theorem dX5_reachedFrom_23 : decode cX5_reachedFrom 23 = .ok (.istore 6, 2) := by decide +kernel
theorem dX5_reachedFrom_25 : decode cX5_reachedFrom 25 = .ok (.iload 6, 2) := by decide +kernel
theorem dX5_reachedFrom_27 : decode cX5_reachedFrom 27 = .ok (.aload_n 0, 1) := by decide +kernel
theorem dX5_reachedFrom_28 : decode cX5_reachedFrom 28 = .ok (.getfield 23, 3) := by decide +kernel
theorem dX5_reachedFrom_31 : decode cX5_reachedFrom 31 = .ok (.getfield 87, 3) := by decide +kernel
theorem dX5_reachedFrom_34 : decode cX5_reachedFrom 34 = .ok (.if_icmp .ge 57, 3) := by decide +kernel
theorem dX5_reachedFrom_37 : decode cX5_reachedFrom 37 = .ok (.iconst 1, 1) := by decide +kernel
theorem dX5_reachedFrom_38 : decode cX5_reachedFrom 38 = .ok (.aload_n 0, 1) := by decide +kernel
theorem dX5_reachedFrom_39 : decode cX5_reachedFrom 39 = .ok (.getfield 23, 3) := by decide +kernel
theorem dX5_reachedFrom_42 : decode cX5_reachedFrom 42 = .ok (.getfield 90, 3) := by decide +kernel
theorem dX5_reachedFrom_45 : decode cX5_reachedFrom 45 = .ok (.iload 6, 2) := by decide +kernel
theorem dX5_reachedFrom_47 : decode cX5_reachedFrom 47 = .ok (.iaload, 1) := by decide +kernel
theorem dX5_reachedFrom_48 : decode cX5_reachedFrom 48 = .ok (.ishl, 1) := by decide +kernel
theorem dX5_reachedFrom_49 : decode cX5_reachedFrom 49 = .ok (.iconst 1, 1) := by decide +kernel
theorem dX5_reachedFrom_50 : decode cX5_reachedFrom 50 = .ok (.aload_n 0, 1) := by decide +kernel
theorem dX5_reachedFrom_51 : decode cX5_reachedFrom 51 = .ok (.getfield 23, 3) := by decide +kernel
theorem dX5_reachedFrom_54 : decode cX5_reachedFrom 54 = .ok (.getfield 93, 3) := by decide +kernel
theorem dX5_reachedFrom_57 : decode cX5_reachedFrom 57 = .ok (.iload 6, 2) := by decide +kernel
theorem dX5_reachedFrom_59 : decode cX5_reachedFrom 59 = .ok (.iaload, 1) := by decide +kernel
theorem dX5_reachedFrom_60 : decode cX5_reachedFrom 60 = .ok (.ishl, 1) := by decide +kernel
theorem dX5_reachedFrom_61 : decode cX5_reachedFrom 61 = .ok (.ior, 1) := by decide +kernel
theorem dX5_reachedFrom_62 : decode cX5_reachedFrom 62 = .ok (.istore 7, 2) := by decide +kernel
theorem dX5_reachedFrom_64 : decode cX5_reachedFrom 64 = .ok (.iload_n 2, 1) := by decide +kernel
theorem dX5_reachedFrom_65 : decode cX5_reachedFrom 65 = .ok (.iload 6, 2) := by decide +kernel
theorem dX5_reachedFrom_67 : decode cX5_reachedFrom 67 = .ok (.ishr, 1) := by decide +kernel
theorem dX5_reachedFrom_68 : decode cX5_reachedFrom 68 = .ok (.iconst 1, 1) := by decide +kernel
theorem dX5_reachedFrom_69 : decode cX5_reachedFrom 69 = .ok (.iand, 1) := by decide +kernel
theorem dX5_reachedFrom_70 : decode cX5_reachedFrom 70 = .ok (.ifCond .eq 15, 3) := by decide +kernel
theorem dX5_reachedFrom_73 : decode cX5_reachedFrom 73 = .ok (.iload_n 3, 1) := by decide +kernel
theorem dX5_reachedFrom_74 : decode cX5_reachedFrom 74 = .ok (.iload 7, 2) := by decide +kernel
theorem dX5_reachedFrom_76 : decode cX5_reachedFrom 76 = .ok (.iand, 1) := by decide +kernel
theorem dX5_reachedFrom_77 : decode cX5_reachedFrom 77 = .ok (.ifCond .eq 8, 3) := by decide +kernel
theorem dX5_reachedFrom_80 : decode cX5_reachedFrom 80 = .ok (.iload_n 3, 1) := by decide +kernel
theorem dX5_reachedFrom_81 : decode cX5_reachedFrom 81 = .ok (.iload 7, 2) := by decide +kernel
theorem dX5_reachedFrom_83 : decode cX5_reachedFrom 83 = .ok (.ior, 1) := by decide +kernel
theorem dX5_reachedFrom_84 : decode cX5_reachedFrom 84 = .ok (.istore_n 3, 1) := by decide +kernel
theorem dX5_reachedFrom_85 : decode cX5_reachedFrom 85 = .ok (.iinc 6 1, 3) := by decide +kernel
theorem dX5_reachedFrom_88 : decode cX5_reachedFrom 88 = .ok (.goto (-63), 3) := by decide +kernel
theorem dX5_reachedFrom_91 : decode cX5_reachedFrom 91 = .ok (.iload_n 3, 1) := by decide +kernel
theorem dX5_reachedFrom_92 : decode cX5_reachedFrom 92 = .ok (.iload 5, 2) := by decide +kernel
theorem dX5_reachedFrom_94 : decode cX5_reachedFrom 94 = .ok (.if_icmp .ne 5, 3) := by decide +kernel
theorem dX5_reachedFrom_97 : decode cX5_reachedFrom 97 = .ok (.iload_n 3, 1) := by decide +kernel
theorem dX5_reachedFrom_98 : decode cX5_reachedFrom 98 = .ok (.ireturn, 1) := by decide +kernel
theorem dX5_reachedFrom_99 : decode cX5_reachedFrom 99 = .ok (.iinc 4 1, 3) := by decide +kernel
theorem dX5_reachedFrom_102 : decode cX5_reachedFrom 102 = .ok (.goto (-95), 3) := by decide +kernel
theorem dX5_reachedFrom_105 : decode cX5_reachedFrom 105 = .ok (.iload_n 3, 1) := by decide +kernel
theorem dX5_reachedFrom_106 : decode cX5_reachedFrom 106 = .ok (.ireturn, 1) := by decide +kernel
theorem dX5_meets_0 : decode cX5_meets 0 = .ok (.aload_n 0, 1) := by decide +kernel
theorem dX5_meets_1 : decode cX5_meets 1 = .ok (.iload_n 1, 1) := by decide +kernel
theorem dX5_meets_2 : decode cX5_meets 2 = .ok (.iload_n 3, 1) := by decide +kernel
theorem dX5_meets_3 : decode cX5_meets 3 = .ok (.invokevirtual 96, 3) := by decide +kernel
theorem dX5_meets_6 : decode cX5_meets 6 = .ok (.iload_n 2, 1) := by decide +kernel
theorem dX5_meets_7 : decode cX5_meets 7 = .ok (.ishr, 1) := by decide +kernel
theorem dX5_meets_8 : decode cX5_meets 8 = .ok (.iconst 1, 1) := by decide +kernel
theorem dX5_meets_9 : decode cX5_meets 9 = .ok (.iand, 1) := by decide +kernel
theorem dX5_meets_10 : decode cX5_meets 10 = .ok (.ifCond .eq 7, 3) := by decide +kernel
theorem dX5_meets_13 : decode cX5_meets 13 = .ok (.iconst 1, 1) := by decide +kernel
theorem dX5_meets_14 : decode cX5_meets 14 = .ok (.goto 4, 3) := by decide +kernel
theorem dX5_meets_17 : decode cX5_meets 17 = .ok (.iconst 0, 1) := by decide +kernel
theorem dX5_meets_18 : decode cX5_meets 18 = .ok (.ireturn, 1) := by decide +kernel
theorem dX5_fewestToPart_0 : decode cX5_fewestToPart 0 = .ok (.iload_n 3, 1) := by decide +kernel
theorem dX5_fewestToPart_1 : decode cX5_fewestToPart 1 = .ok (.istore 4, 2) := by decide +kernel
theorem dX5_fewestToPart_3 : decode cX5_fewestToPart 3 = .ok (.iconst 0, 1) := by decide +kernel
theorem dX5_fewestToPart_4 : decode cX5_fewestToPart 4 = .ok (.istore 5, 2) := by decide +kernel
theorem dX5_fewestToPart_6 : decode cX5_fewestToPart 6 = .ok (.iload 5, 2) := by decide +kernel
theorem dX5_fewestToPart_8 : decode cX5_fewestToPart 8 = .ok (.aload_n 0, 1) := by decide +kernel
theorem dX5_fewestToPart_9 : decode cX5_fewestToPart 9 = .ok (.getfield 23, 3) := by decide +kernel
theorem dX5_fewestToPart_12 : decode cX5_fewestToPart 12 = .ok (.invokevirtual 37, 3) := by decide +kernel
theorem dX5_fewestToPart_15 : decode cX5_fewestToPart 15 = .ok (.if_icmp .gt 62, 3) := by decide +kernel
theorem dX5_fewestToPart_18 : decode cX5_fewestToPart 18 = .ok (.iload 5, 2) := by decide +kernel
theorem dX5_fewestToPart_20 : decode cX5_fewestToPart 20 = .ok (.iload_n 3, 1) := by decide +kernel
theorem dX5_fewestToPart_21 : decode cX5_fewestToPart 21 = .ok (.iconst (-1), 1) := by decide +kernel
theorem dX5_fewestToPart_22 : decode cX5_fewestToPart 22 = .ok (.ixor, 1) := by decide +kernel
theorem dX5_fewestToPart_23 : decode cX5_fewestToPart 23 = .ok (.iand, 1) := by decide +kernel
theorem dX5_fewestToPart_24 : decode cX5_fewestToPart 24 = .ok (.ifCond .ne 20, 3) := by decide +kernel
theorem dX5_fewestToPart_27 : decode cX5_fewestToPart 27 = .ok (.iload 5, 2) := by decide +kernel
theorem dX5_fewestToPart_29 : decode cX5_fewestToPart 29 = .ok (.invokestatic 99, 3) := by decide +kernel
theorem dX5_fewestToPart_32 : decode cX5_fewestToPart 32 = .ok (.iload 4, 2) := by decide +kernel
theorem dX5_fewestToPart_34 : decode cX5_fewestToPart 34 = .ok (.invokestatic 99, 3) := by decide +kernel
theorem dX5_fewestToPart_37 : decode cX5_fewestToPart 37 = .ok (.if_icmp .ge 7, 3) := by decide +kernel
theorem dX5_fewestToPart_40 : decode cX5_fewestToPart 40 = .ok (.iconst 1, 1) := by decide +kernel
theorem dX5_fewestToPart_41 : decode cX5_fewestToPart 41 = .ok (.goto 4, 3) := by decide +kernel
theorem dX5_fewestToPart_44 : decode cX5_fewestToPart 44 = .ok (.iconst 0, 1) := by decide +kernel
theorem dX5_fewestToPart_45 : decode cX5_fewestToPart 45 = .ok (.istore 6, 2) := by decide +kernel
theorem dX5_fewestToPart_47 : decode cX5_fewestToPart 47 = .ok (.iload 6, 2) := by decide +kernel
theorem dX5_fewestToPart_49 : decode cX5_fewestToPart 49 = .ok (.ifCond .eq 22, 3) := by decide +kernel
theorem dX5_fewestToPart_52 : decode cX5_fewestToPart 52 = .ok (.aload_n 0, 1) := by decide +kernel
theorem dX5_fewestToPart_53 : decode cX5_fewestToPart 53 = .ok (.iload_n 1, 1) := by decide +kernel
theorem dX5_fewestToPart_54 : decode cX5_fewestToPart 54 = .ok (.iload_n 2, 1) := by decide +kernel
theorem dX5_fewestToPart_55 : decode cX5_fewestToPart 55 = .ok (.iload_n 3, 1) := by decide +kernel
theorem dX5_fewestToPart_56 : decode cX5_fewestToPart 56 = .ok (.iload 5, 2) := by decide +kernel
theorem dX5_fewestToPart_58 : decode cX5_fewestToPart 58 = .ok (.iconst (-1), 1) := by decide +kernel
theorem dX5_fewestToPart_59 : decode cX5_fewestToPart 59 = .ok (.ixor, 1) := by decide +kernel
theorem dX5_fewestToPart_60 : decode cX5_fewestToPart 60 = .ok (.iand, 1) := by decide +kernel
theorem dX5_fewestToPart_61 : decode cX5_fewestToPart 61 = .ok (.invokevirtual 105, 3) := by decide +kernel
theorem dX5_fewestToPart_64 : decode cX5_fewestToPart 64 = .ok (.ifCond .ne 7, 3) := by decide +kernel
theorem dX5_fewestToPart_67 : decode cX5_fewestToPart 67 = .ok (.iload 5, 2) := by decide +kernel
theorem dX5_fewestToPart_69 : decode cX5_fewestToPart 69 = .ok (.istore 4, 2) := by decide +kernel
theorem dX5_fewestToPart_71 : decode cX5_fewestToPart 71 = .ok (.iinc 5 1, 3) := by decide +kernel
theorem dX5_fewestToPart_74 : decode cX5_fewestToPart 74 = .ok (.goto (-68), 3) := by decide +kernel
theorem dX5_fewestToPart_77 : decode cX5_fewestToPart 77 = .ok (.iload 4, 2) := by decide +kernel
theorem dX5_fewestToPart_79 : decode cX5_fewestToPart 79 = .ok (.ireturn, 1) := by decide +kernel
theorem dX5_fewestToJoin_0 : decode cX5_fewestToJoin 0 = .ok (.iconst (-1), 1) := by decide +kernel
theorem dX5_fewestToJoin_1 : decode cX5_fewestToJoin 1 = .ok (.istore 4, 2) := by decide +kernel
theorem dX5_fewestToJoin_3 : decode cX5_fewestToJoin 3 = .ok (.iconst 0, 1) := by decide +kernel
theorem dX5_fewestToJoin_4 : decode cX5_fewestToJoin 4 = .ok (.istore 5, 2) := by decide +kernel
theorem dX5_fewestToJoin_6 : decode cX5_fewestToJoin 6 = .ok (.iload 5, 2) := by decide +kernel
theorem dX5_fewestToJoin_8 : decode cX5_fewestToJoin 8 = .ok (.aload_n 0, 1) := by decide +kernel
theorem dX5_fewestToJoin_9 : decode cX5_fewestToJoin 9 = .ok (.getfield 23, 3) := by decide +kernel
theorem dX5_fewestToJoin_12 : decode cX5_fewestToJoin 12 = .ok (.invokevirtual 37, 3) := by decide +kernel
theorem dX5_fewestToJoin_15 : decode cX5_fewestToJoin 15 = .ok (.if_icmp .gt 64, 3) := by decide +kernel
theorem dX5_fewestToJoin_18 : decode cX5_fewestToJoin 18 = .ok (.iload 4, 2) := by decide +kernel
theorem dX5_fewestToJoin_20 : decode cX5_fewestToJoin 20 = .ok (.iconst (-1), 1) := by decide +kernel
theorem dX5_fewestToJoin_21 : decode cX5_fewestToJoin 21 = .ok (.if_icmp .eq 16, 3) := by decide +kernel
theorem dX5_fewestToJoin_24 : decode cX5_fewestToJoin 24 = .ok (.iload 5, 2) := by decide +kernel
theorem dX5_fewestToJoin_26 : decode cX5_fewestToJoin 26 = .ok (.invokestatic 99, 3) := by decide +kernel
theorem dX5_fewestToJoin_29 : decode cX5_fewestToJoin 29 = .ok (.iload 4, 2) := by decide +kernel
theorem dX5_fewestToJoin_31 : decode cX5_fewestToJoin 31 = .ok (.invokestatic 99, 3) := by decide +kernel
theorem dX5_fewestToJoin_34 : decode cX5_fewestToJoin 34 = .ok (.if_icmp .ge 7, 3) := by decide +kernel
theorem dX5_fewestToJoin_37 : decode cX5_fewestToJoin 37 = .ok (.iconst 1, 1) := by decide +kernel
theorem dX5_fewestToJoin_38 : decode cX5_fewestToJoin 38 = .ok (.goto 4, 3) := by decide +kernel
theorem dX5_fewestToJoin_41 : decode cX5_fewestToJoin 41 = .ok (.iconst 0, 1) := by decide +kernel
theorem dX5_fewestToJoin_42 : decode cX5_fewestToJoin 42 = .ok (.istore 6, 2) := by decide +kernel
theorem dX5_fewestToJoin_44 : decode cX5_fewestToJoin 44 = .ok (.iload 6, 2) := by decide +kernel
theorem dX5_fewestToJoin_46 : decode cX5_fewestToJoin 46 = .ok (.ifCond .eq 27, 3) := by decide +kernel
theorem dX5_fewestToJoin_49 : decode cX5_fewestToJoin 49 = .ok (.iload 5, 2) := by decide +kernel
theorem dX5_fewestToJoin_51 : decode cX5_fewestToJoin 51 = .ok (.iload_n 3, 1) := by decide +kernel
theorem dX5_fewestToJoin_52 : decode cX5_fewestToJoin 52 = .ok (.iand, 1) := by decide +kernel
theorem dX5_fewestToJoin_53 : decode cX5_fewestToJoin 53 = .ok (.ifCond .ne 20, 3) := by decide +kernel
theorem dX5_fewestToJoin_56 : decode cX5_fewestToJoin 56 = .ok (.aload_n 0, 1) := by decide +kernel
theorem dX5_fewestToJoin_57 : decode cX5_fewestToJoin 57 = .ok (.iload_n 1, 1) := by decide +kernel
theorem dX5_fewestToJoin_58 : decode cX5_fewestToJoin 58 = .ok (.iload_n 2, 1) := by decide +kernel
theorem dX5_fewestToJoin_59 : decode cX5_fewestToJoin 59 = .ok (.iload_n 3, 1) := by decide +kernel
theorem dX5_fewestToJoin_60 : decode cX5_fewestToJoin 60 = .ok (.iload 5, 2) := by decide +kernel
theorem dX5_fewestToJoin_62 : decode cX5_fewestToJoin 62 = .ok (.ior, 1) := by decide +kernel
theorem dX5_fewestToJoin_63 : decode cX5_fewestToJoin 63 = .ok (.invokevirtual 105, 3) := by decide +kernel
theorem dX5_fewestToJoin_66 : decode cX5_fewestToJoin 66 = .ok (.ifCond .eq 7, 3) := by decide +kernel
theorem dX5_fewestToJoin_69 : decode cX5_fewestToJoin 69 = .ok (.iload 5, 2) := by decide +kernel
theorem dX5_fewestToJoin_71 : decode cX5_fewestToJoin 71 = .ok (.istore 4, 2) := by decide +kernel
theorem dX5_fewestToJoin_73 : decode cX5_fewestToJoin 73 = .ok (.iinc 5 1, 3) := by decide +kernel
theorem dX5_fewestToJoin_76 : decode cX5_fewestToJoin 76 = .ok (.goto (-70), 3) := by decide +kernel
theorem dX5_fewestToJoin_79 : decode cX5_fewestToJoin 79 = .ok (.iload 4, 2) := by decide +kernel
theorem dX5_fewestToJoin_81 : decode cX5_fewestToJoin 81 = .ok (.ireturn, 1) := by decide +kernel
theorem dX5_partsThatJoin_0 : decode cX5_partsThatJoin 0 = .ok (.aload_n 0, 1) := by decide +kernel
theorem dX5_partsThatJoin_1 : decode cX5_partsThatJoin 1 = .ok (.iload_n 1, 1) := by decide +kernel
theorem dX5_partsThatJoin_2 : decode cX5_partsThatJoin 2 = .ok (.iload_n 2, 1) := by decide +kernel
theorem dX5_partsThatJoin_3 : decode cX5_partsThatJoin 3 = .ok (.iload_n 3, 1) := by decide +kernel
theorem dX5_partsThatJoin_4 : decode cX5_partsThatJoin 4 = .ok (.iconst 0, 1) := by decide +kernel
theorem dX5_partsThatJoin_5 : decode cX5_partsThatJoin 5 = .ok (.iload 4, 2) := by decide +kernel
theorem dX5_partsThatJoin_7 : decode cX5_partsThatJoin 7 = .ok (.iconst 0, 1) := by decide +kernel
theorem dX5_partsThatJoin_8 : decode cX5_partsThatJoin 8 = .ok (.ldc 108, 2) := by decide +kernel
theorem dX5_partsThatJoin_10 : decode cX5_partsThatJoin 10 = .ok (.invokevirtual 109, 3) := by decide +kernel
theorem dX5_partsThatJoin_13 : decode cX5_partsThatJoin 13 = .ok (.ireturn, 1) := by decide +kernel
theorem dX5_joiningParts_0 : decode cX5_joiningParts 0 = .ok (.iload 7, 2) := by decide +kernel
theorem dX5_joiningParts_2 : decode cX5_joiningParts 2 = .ok (.ifCond .eq 14, 3) := by decide +kernel
theorem dX5_joiningParts_5 : decode cX5_joiningParts 5 = .ok (.aload_n 0, 1) := by decide +kernel
theorem dX5_joiningParts_6 : decode cX5_joiningParts 6 = .ok (.iload_n 1, 1) := by decide +kernel
theorem dX5_joiningParts_7 : decode cX5_joiningParts 7 = .ok (.iload_n 2, 1) := by decide +kernel
theorem dX5_joiningParts_8 : decode cX5_joiningParts 8 = .ok (.iload 6, 2) := by decide +kernel
theorem dX5_joiningParts_10 : decode cX5_joiningParts 10 = .ok (.invokevirtual 105, 3) := by decide +kernel
theorem dX5_joiningParts_13 : decode cX5_joiningParts 13 = .ok (.ifCond .eq 6, 3) := by decide +kernel
theorem dX5_joiningParts_16 : decode cX5_joiningParts 16 = .ok (.iload 7, 2) := by decide +kernel
theorem dX5_joiningParts_18 : decode cX5_joiningParts 18 = .ok (.ireturn, 1) := by decide +kernel
theorem dX5_joiningParts_19 : decode cX5_joiningParts 19 = .ok (.iload 4, 2) := by decide +kernel
theorem dX5_joiningParts_21 : decode cX5_joiningParts 21 = .ok (.aload_n 0, 1) := by decide +kernel
theorem dX5_joiningParts_22 : decode cX5_joiningParts 22 = .ok (.getfield 23, 3) := by decide +kernel
theorem dX5_joiningParts_25 : decode cX5_joiningParts 25 = .ok (.getfield 87, 3) := by decide +kernel
theorem dX5_joiningParts_28 : decode cX5_joiningParts 28 = .ok (.if_icmp .ge 17, 3) := by decide +kernel
theorem dX5_joiningParts_31 : decode cX5_joiningParts 31 = .ok (.aload_n 0, 1) := by decide +kernel
theorem dX5_joiningParts_32 : decode cX5_joiningParts 32 = .ok (.iload_n 1, 1) := by decide +kernel
theorem dX5_joiningParts_33 : decode cX5_joiningParts 33 = .ok (.iload_n 2, 1) := by decide +kernel
theorem dX5_joiningParts_34 : decode cX5_joiningParts 34 = .ok (.iload 6, 2) := by decide +kernel
theorem dX5_joiningParts_36 : decode cX5_joiningParts 36 = .ok (.iload 5, 2) := by decide +kernel
theorem dX5_joiningParts_38 : decode cX5_joiningParts 38 = .ok (.ior, 1) := by decide +kernel
theorem dX5_joiningParts_39 : decode cX5_joiningParts 39 = .ok (.invokevirtual 105, 3) := by decide +kernel
theorem dX5_joiningParts_42 : decode cX5_joiningParts 42 = .ok (.ifCond .ne 5, 3) := by decide +kernel
theorem dX5_joiningParts_45 : decode cX5_joiningParts 45 = .ok (.iconst 0, 1) := by decide +kernel
theorem dX5_joiningParts_46 : decode cX5_joiningParts 46 = .ok (.ireturn, 1) := by decide +kernel
theorem dX5_joiningParts_47 : decode cX5_joiningParts 47 = .ok (.iload 5, 2) := by decide +kernel
theorem dX5_joiningParts_49 : decode cX5_joiningParts 49 = .ok (.iconst 1, 1) := by decide +kernel
theorem dX5_joiningParts_50 : decode cX5_joiningParts 50 = .ok (.iload 4, 2) := by decide +kernel
theorem dX5_joiningParts_52 : decode cX5_joiningParts 52 = .ok (.ishl, 1) := by decide +kernel
theorem dX5_joiningParts_53 : decode cX5_joiningParts 53 = .ok (.iand, 1) := by decide +kernel
theorem dX5_joiningParts_54 : decode cX5_joiningParts 54 = .ok (.istore 8, 2) := by decide +kernel
theorem dX5_joiningParts_56 : decode cX5_joiningParts 56 = .ok (.iload 8, 2) := by decide +kernel
theorem dX5_joiningParts_58 : decode cX5_joiningParts 58 = .ok (.ifCond .ne 21, 3) := by decide +kernel
theorem dX5_joiningParts_61 : decode cX5_joiningParts 61 = .ok (.aload_n 0, 1) := by decide +kernel
theorem dX5_joiningParts_62 : decode cX5_joiningParts 62 = .ok (.iload_n 1, 1) := by decide +kernel
theorem dX5_joiningParts_63 : decode cX5_joiningParts 63 = .ok (.iload_n 2, 1) := by decide +kernel
theorem dX5_joiningParts_64 : decode cX5_joiningParts 64 = .ok (.iload_n 3, 1) := by decide +kernel
theorem dX5_joiningParts_65 : decode cX5_joiningParts 65 = .ok (.iload 4, 2) := by decide +kernel
theorem dX5_joiningParts_67 : decode cX5_joiningParts 67 = .ok (.iconst 1, 1) := by decide +kernel
theorem dX5_joiningParts_68 : decode cX5_joiningParts 68 = .ok (.iadd, 1) := by decide +kernel
theorem dX5_joiningParts_69 : decode cX5_joiningParts 69 = .ok (.iload 5, 2) := by decide +kernel
theorem dX5_joiningParts_71 : decode cX5_joiningParts 71 = .ok (.iload 6, 2) := by decide +kernel
theorem dX5_joiningParts_73 : decode cX5_joiningParts 73 = .ok (.iload 7, 2) := by decide +kernel
theorem dX5_joiningParts_75 : decode cX5_joiningParts 75 = .ok (.invokevirtual 109, 3) := by decide +kernel
theorem dX5_joiningParts_78 : decode cX5_joiningParts 78 = .ok (.ireturn, 1) := by decide +kernel
theorem dX5_joiningParts_79 : decode cX5_joiningParts 79 = .ok (.iload 7, 2) := by decide +kernel
theorem dX5_joiningParts_81 : decode cX5_joiningParts 81 = .ok (.i2l, 1) := by decide +kernel
theorem dX5_joiningParts_82 : decode cX5_joiningParts 82 = .ok (.iload_n 3, 1) := by decide +kernel
theorem dX5_joiningParts_83 : decode cX5_joiningParts 83 = .ok (.i2l, 1) := by decide +kernel
theorem dX5_joiningParts_84 : decode cX5_joiningParts 84 = .ok (.lmul, 1) := by decide +kernel
theorem dX5_joiningParts_85 : decode cX5_joiningParts 85 = .ok (.ldc2_w 113, 3) := by decide +kernel
theorem dX5_joiningParts_88 : decode cX5_joiningParts 88 = .ok (.ldiv, 1) := by decide +kernel
theorem dX5_joiningParts_89 : decode cX5_joiningParts 89 = .ok (.l2i, 1) := by decide +kernel
theorem dX5_joiningParts_90 : decode cX5_joiningParts 90 = .ok (.istore 9, 2) := by decide +kernel
theorem dX5_joiningParts_92 : decode cX5_joiningParts 92 = .ok (.aload_n 0, 1) := by decide +kernel
theorem dX5_joiningParts_93 : decode cX5_joiningParts 93 = .ok (.iload_n 1, 1) := by decide +kernel
theorem dX5_joiningParts_94 : decode cX5_joiningParts 94 = .ok (.iload_n 2, 1) := by decide +kernel
theorem dX5_joiningParts_95 : decode cX5_joiningParts 95 = .ok (.iload_n 3, 1) := by decide +kernel
theorem dX5_joiningParts_96 : decode cX5_joiningParts 96 = .ok (.iload 4, 2) := by decide +kernel
theorem dX5_joiningParts_98 : decode cX5_joiningParts 98 = .ok (.iconst 1, 1) := by decide +kernel
theorem dX5_joiningParts_99 : decode cX5_joiningParts 99 = .ok (.iadd, 1) := by decide +kernel
theorem dX5_joiningParts_100 : decode cX5_joiningParts 100 = .ok (.iload 5, 2) := by decide +kernel
theorem dX5_joiningParts_102 : decode cX5_joiningParts 102 = .ok (.iload 8, 2) := by decide +kernel
theorem dX5_joiningParts_104 : decode cX5_joiningParts 104 = .ok (.iconst (-1), 1) := by decide +kernel
theorem dX5_joiningParts_105 : decode cX5_joiningParts 105 = .ok (.ixor, 1) := by decide +kernel
theorem dX5_joiningParts_106 : decode cX5_joiningParts 106 = .ok (.iand, 1) := by decide +kernel
theorem dX5_joiningParts_107 : decode cX5_joiningParts 107 = .ok (.iload 6, 2) := by decide +kernel
theorem dX5_joiningParts_109 : decode cX5_joiningParts 109 = .ok (.iload 9, 2) := by decide +kernel
theorem dX5_joiningParts_111 : decode cX5_joiningParts 111 = .ok (.invokevirtual 109, 3) := by decide +kernel
theorem dX5_joiningParts_114 : decode cX5_joiningParts 114 = .ok (.aload_n 0, 1) := by decide +kernel
theorem dX5_joiningParts_115 : decode cX5_joiningParts 115 = .ok (.iload_n 1, 1) := by decide +kernel
theorem dX5_joiningParts_116 : decode cX5_joiningParts 116 = .ok (.iload_n 2, 1) := by decide +kernel
theorem dX5_joiningParts_117 : decode cX5_joiningParts 117 = .ok (.iload_n 3, 1) := by decide +kernel
theorem dX5_joiningParts_118 : decode cX5_joiningParts 118 = .ok (.iload 4, 2) := by decide +kernel
theorem dX5_joiningParts_120 : decode cX5_joiningParts 120 = .ok (.iconst 1, 1) := by decide +kernel
theorem dX5_joiningParts_121 : decode cX5_joiningParts 121 = .ok (.iadd, 1) := by decide +kernel
theorem dX5_joiningParts_122 : decode cX5_joiningParts 122 = .ok (.iload 5, 2) := by decide +kernel
theorem dX5_joiningParts_124 : decode cX5_joiningParts 124 = .ok (.iload 8, 2) := by decide +kernel
theorem dX5_joiningParts_126 : decode cX5_joiningParts 126 = .ok (.iconst (-1), 1) := by decide +kernel
theorem dX5_joiningParts_127 : decode cX5_joiningParts 127 = .ok (.ixor, 1) := by decide +kernel
theorem dX5_joiningParts_128 : decode cX5_joiningParts 128 = .ok (.iand, 1) := by decide +kernel
theorem dX5_joiningParts_129 : decode cX5_joiningParts 129 = .ok (.iload 6, 2) := by decide +kernel
theorem dX5_joiningParts_131 : decode cX5_joiningParts 131 = .ok (.iload 8, 2) := by decide +kernel
theorem dX5_joiningParts_133 : decode cX5_joiningParts 133 = .ok (.ior, 1) := by decide +kernel
theorem dX5_joiningParts_134 : decode cX5_joiningParts 134 = .ok (.iload 7, 2) := by decide +kernel
theorem dX5_joiningParts_136 : decode cX5_joiningParts 136 = .ok (.iload 9, 2) := by decide +kernel
theorem dX5_joiningParts_138 : decode cX5_joiningParts 138 = .ok (.isub, 1) := by decide +kernel
theorem dX5_joiningParts_139 : decode cX5_joiningParts 139 = .ok (.invokevirtual 109, 3) := by decide +kernel
theorem dX5_joiningParts_142 : decode cX5_joiningParts 142 = .ok (.iadd, 1) := by decide +kernel
theorem dX5_joiningParts_143 : decode cX5_joiningParts 143 = .ok (.ireturn, 1) := by decide +kernel
theorem dX5_middle_0 : decode cX5_middle 0 = .ok (.iconst 0, 1) := by decide +kernel
theorem dX5_middle_1 : decode cX5_middle 1 = .ok (.istore_n 1, 1) := by decide +kernel
theorem dX5_middle_2 : decode cX5_middle 2 = .ok (.iconst 1, 1) := by decide +kernel
theorem dX5_middle_3 : decode cX5_middle 3 = .ok (.istore_n 2, 1) := by decide +kernel
theorem dX5_middle_4 : decode cX5_middle 4 = .ok (.iload_n 2, 1) := by decide +kernel
theorem dX5_middle_5 : decode cX5_middle 5 = .ok (.aload_n 0, 1) := by decide +kernel
theorem dX5_middle_6 : decode cX5_middle 6 = .ok (.getfield 23, 3) := by decide +kernel
theorem dX5_middle_9 : decode cX5_middle 9 = .ok (.getfield 52, 3) := by decide +kernel
theorem dX5_middle_12 : decode cX5_middle 12 = .ok (.if_icmp .ge 24, 3) := by decide +kernel
theorem dX5_middle_15 : decode cX5_middle 15 = .ok (.aload_n 0, 1) := by decide +kernel
theorem dX5_middle_16 : decode cX5_middle 16 = .ok (.iload_n 2, 1) := by decide +kernel
theorem dX5_middle_17 : decode cX5_middle 17 = .ok (.invokevirtual 115, 3) := by decide +kernel
theorem dX5_middle_20 : decode cX5_middle 20 = .ok (.aload_n 0, 1) := by decide +kernel
theorem dX5_middle_21 : decode cX5_middle 21 = .ok (.iload_n 1, 1) := by decide +kernel
theorem dX5_middle_22 : decode cX5_middle 22 = .ok (.invokevirtual 115, 3) := by decide +kernel
theorem dX5_middle_25 : decode cX5_middle 25 = .ok (.if_icmp .ge 5, 3) := by decide +kernel
theorem dX5_middle_28 : decode cX5_middle 28 = .ok (.iload_n 2, 1) := by decide +kernel
theorem dX5_middle_29 : decode cX5_middle 29 = .ok (.istore_n 1, 1) := by decide +kernel
theorem dX5_middle_30 : decode cX5_middle 30 = .ok (.iinc 2 1, 3) := by decide +kernel
theorem dX5_middle_33 : decode cX5_middle 33 = .ok (.goto (-29), 3) := by decide +kernel
theorem dX5_middle_36 : decode cX5_middle 36 = .ok (.iload_n 1, 1) := by decide +kernel
theorem dX5_middle_37 : decode cX5_middle 37 = .ok (.ireturn, 1) := by decide +kernel
theorem dX5_farthestFrom_0 : decode cX5_farthestFrom 0 = .ok (.iconst 0, 1) := by decide +kernel
theorem dX5_farthestFrom_1 : decode cX5_farthestFrom 1 = .ok (.istore_n 2, 1) := by decide +kernel
theorem dX5_farthestFrom_2 : decode cX5_farthestFrom 2 = .ok (.iconst 0, 1) := by decide +kernel
theorem dX5_farthestFrom_3 : decode cX5_farthestFrom 3 = .ok (.istore_n 3, 1) := by decide +kernel
theorem dX5_farthestFrom_4 : decode cX5_farthestFrom 4 = .ok (.iload_n 3, 1) := by decide +kernel
theorem dX5_farthestFrom_5 : decode cX5_farthestFrom 5 = .ok (.aload_n 0, 1) := by decide +kernel
theorem dX5_farthestFrom_6 : decode cX5_farthestFrom 6 = .ok (.getfield 23, 3) := by decide +kernel
theorem dX5_farthestFrom_9 : decode cX5_farthestFrom 9 = .ok (.getfield 52, 3) := by decide +kernel
theorem dX5_farthestFrom_12 : decode cX5_farthestFrom 12 = .ok (.if_icmp .ge 31, 3) := by decide +kernel
theorem dX5_farthestFrom_15 : decode cX5_farthestFrom 15 = .ok (.aload_n 0, 1) := by decide +kernel
theorem dX5_farthestFrom_16 : decode cX5_farthestFrom 16 = .ok (.iload_n 1, 1) := by decide +kernel
theorem dX5_farthestFrom_17 : decode cX5_farthestFrom 17 = .ok (.iload_n 3, 1) := by decide +kernel
theorem dX5_farthestFrom_18 : decode cX5_farthestFrom 18 = .ok (.invokevirtual 83, 3) := by decide +kernel
theorem dX5_farthestFrom_21 : decode cX5_farthestFrom 21 = .ok (.ifCond .eq 16, 3) := by decide +kernel
theorem dX5_farthestFrom_24 : decode cX5_farthestFrom 24 = .ok (.iload_n 2, 1) := by decide +kernel
theorem dX5_farthestFrom_25 : decode cX5_farthestFrom 25 = .ok (.aload_n 0, 1) := by decide +kernel
theorem dX5_farthestFrom_26 : decode cX5_farthestFrom 26 = .ok (.getfield 16, 3) := by decide +kernel
theorem dX5_farthestFrom_29 : decode cX5_farthestFrom 29 = .ok (.iload_n 1, 1) := by decide +kernel
theorem dX5_farthestFrom_30 : decode cX5_farthestFrom 30 = .ok (.aaload, 1) := by decide +kernel
theorem dX5_farthestFrom_31 : decode cX5_farthestFrom 31 = .ok (.iload_n 3, 1) := by decide +kernel
theorem dX5_farthestFrom_32 : decode cX5_farthestFrom 32 = .ok (.iaload, 1) := by decide +kernel
theorem dX5_farthestFrom_33 : decode cX5_farthestFrom 33 = .ok (.invokestatic 118, 3) := by decide +kernel
theorem dX5_farthestFrom_36 : decode cX5_farthestFrom 36 = .ok (.istore_n 2, 1) := by decide +kernel
theorem dX5_farthestFrom_37 : decode cX5_farthestFrom 37 = .ok (.iinc 3 1, 3) := by decide +kernel
theorem dX5_farthestFrom_40 : decode cX5_farthestFrom 40 = .ok (.goto (-36), 3) := by decide +kernel
theorem dX5_farthestFrom_43 : decode cX5_farthestFrom 43 = .ok (.iload_n 2, 1) := by decide +kernel
theorem dX5_farthestFrom_44 : decode cX5_farthestFrom 44 = .ok (.ireturn, 1) := by decide +kernel
theorem dX5_bridges_0 : decode cX5_bridges 0 = .ok (.iconst 0, 1) := by decide +kernel
theorem dX5_bridges_1 : decode cX5_bridges 1 = .ok (.istore_n 1, 1) := by decide +kernel
theorem dX5_bridges_2 : decode cX5_bridges 2 = .ok (.iconst 0, 1) := by decide +kernel
theorem dX5_bridges_3 : decode cX5_bridges 3 = .ok (.istore_n 2, 1) := by decide +kernel
theorem dX5_bridges_4 : decode cX5_bridges 4 = .ok (.iload_n 2, 1) := by decide +kernel
theorem dX5_bridges_5 : decode cX5_bridges 5 = .ok (.aload_n 0, 1) := by decide +kernel
theorem dX5_bridges_6 : decode cX5_bridges 6 = .ok (.getfield 23, 3) := by decide +kernel
theorem dX5_bridges_9 : decode cX5_bridges 9 = .ok (.getfield 87, 3) := by decide +kernel
theorem dX5_bridges_12 : decode cX5_bridges 12 = .ok (.if_icmp .ge 59, 3) := by decide +kernel
theorem dX5_bridges_15 : decode cX5_bridges 15 = .ok (.aload_n 0, 1) := by decide +kernel
theorem dX5_bridges_16 : decode cX5_bridges 16 = .ok (.getfield 49, 3) := by decide +kernel
theorem dX5_bridges_19 : decode cX5_bridges 19 = .ok (.iconst 1, 1) := by decide +kernel
theorem dX5_bridges_20 : decode cX5_bridges 20 = .ok (.iload_n 2, 1) := by decide +kernel
theorem dX5_bridges_21 : decode cX5_bridges 21 = .ok (.ishl, 1) := by decide +kernel
theorem dX5_bridges_22 : decode cX5_bridges 22 = .ok (.iand, 1) := by decide +kernel
theorem dX5_bridges_23 : decode cX5_bridges 23 = .ok (.istore_n 3, 1) := by decide +kernel
theorem dX5_bridges_24 : decode cX5_bridges 24 = .ok (.iload_n 3, 1) := by decide +kernel
theorem dX5_bridges_25 : decode cX5_bridges 25 = .ok (.ifCond .eq 40, 3) := by decide +kernel
theorem dX5_bridges_28 : decode cX5_bridges 28 = .ok (.aload_n 0, 1) := by decide +kernel
theorem dX5_bridges_29 : decode cX5_bridges 29 = .ok (.aload_n 0, 1) := by decide +kernel
theorem dX5_bridges_30 : decode cX5_bridges 30 = .ok (.getfield 23, 3) := by decide +kernel
theorem dX5_bridges_33 : decode cX5_bridges 33 = .ok (.getfield 90, 3) := by decide +kernel
theorem dX5_bridges_36 : decode cX5_bridges 36 = .ok (.iload_n 2, 1) := by decide +kernel
theorem dX5_bridges_37 : decode cX5_bridges 37 = .ok (.iaload, 1) := by decide +kernel
theorem dX5_bridges_38 : decode cX5_bridges 38 = .ok (.aload_n 0, 1) := by decide +kernel
theorem dX5_bridges_39 : decode cX5_bridges 39 = .ok (.getfield 23, 3) := by decide +kernel
theorem dX5_bridges_42 : decode cX5_bridges 42 = .ok (.getfield 93, 3) := by decide +kernel
theorem dX5_bridges_45 : decode cX5_bridges 45 = .ok (.iload_n 2, 1) := by decide +kernel
theorem dX5_bridges_46 : decode cX5_bridges 46 = .ok (.iaload, 1) := by decide +kernel
theorem dX5_bridges_47 : decode cX5_bridges 47 = .ok (.aload_n 0, 1) := by decide +kernel
theorem dX5_bridges_48 : decode cX5_bridges 48 = .ok (.getfield 49, 3) := by decide +kernel
theorem dX5_bridges_51 : decode cX5_bridges 51 = .ok (.iload_n 3, 1) := by decide +kernel
theorem dX5_bridges_52 : decode cX5_bridges 52 = .ok (.iconst (-1), 1) := by decide +kernel
theorem dX5_bridges_53 : decode cX5_bridges 53 = .ok (.ixor, 1) := by decide +kernel
theorem dX5_bridges_54 : decode cX5_bridges 54 = .ok (.iand, 1) := by decide +kernel
theorem dX5_bridges_55 : decode cX5_bridges 55 = .ok (.invokevirtual 105, 3) := by decide +kernel
theorem dX5_bridges_58 : decode cX5_bridges 58 = .ok (.ifCond .ne 7, 3) := by decide +kernel
theorem dX5_bridges_61 : decode cX5_bridges 61 = .ok (.iload_n 1, 1) := by decide +kernel
theorem dX5_bridges_62 : decode cX5_bridges 62 = .ok (.iload_n 3, 1) := by decide +kernel
theorem dX5_bridges_63 : decode cX5_bridges 63 = .ok (.ior, 1) := by decide +kernel
theorem dX5_bridges_64 : decode cX5_bridges 64 = .ok (.istore_n 1, 1) := by decide +kernel
theorem dX5_bridges_65 : decode cX5_bridges 65 = .ok (.iinc 2 1, 3) := by decide +kernel
theorem dX5_bridges_68 : decode cX5_bridges 68 = .ok (.goto (-64), 3) := by decide +kernel
theorem dX5_bridges_71 : decode cX5_bridges 71 = .ok (.iload_n 1, 1) := by decide +kernel
theorem dX5_bridges_72 : decode cX5_bridges 72 = .ok (.ireturn, 1) := by decide +kernel
theorem dX5_openHours_0 : decode cX5_openHours 0 = .ok (.iconst 0, 1) := by decide +kernel
theorem dX5_openHours_1 : decode cX5_openHours 1 = .ok (.istore_n 1, 1) := by decide +kernel
theorem dX5_openHours_2 : decode cX5_openHours 2 = .ok (.iconst 0, 1) := by decide +kernel
theorem dX5_openHours_3 : decode cX5_openHours 3 = .ok (.istore_n 2, 1) := by decide +kernel
theorem dX5_openHours_4 : decode cX5_openHours 4 = .ok (.iload_n 2, 1) := by decide +kernel
theorem dX5_openHours_5 : decode cX5_openHours 5 = .ok (.aload_n 0, 1) := by decide +kernel
theorem dX5_openHours_6 : decode cX5_openHours 6 = .ok (.getfield 23, 3) := by decide +kernel
theorem dX5_openHours_9 : decode cX5_openHours 9 = .ok (.getfield 87, 3) := by decide +kernel
theorem dX5_openHours_12 : decode cX5_openHours 12 = .ok (.if_icmp .ge 32, 3) := by decide +kernel
theorem dX5_openHours_15 : decode cX5_openHours 15 = .ok (.aload_n 0, 1) := by decide +kernel
theorem dX5_openHours_16 : decode cX5_openHours 16 = .ok (.getfield 49, 3) := by decide +kernel
theorem dX5_openHours_19 : decode cX5_openHours 19 = .ok (.iload_n 2, 1) := by decide +kernel
theorem dX5_openHours_20 : decode cX5_openHours 20 = .ok (.ishr, 1) := by decide +kernel
theorem dX5_openHours_21 : decode cX5_openHours 21 = .ok (.iconst 1, 1) := by decide +kernel
theorem dX5_openHours_22 : decode cX5_openHours 22 = .ok (.iand, 1) := by decide +kernel
theorem dX5_openHours_23 : decode cX5_openHours 23 = .ok (.ifCond .eq 15, 3) := by decide +kernel
theorem dX5_openHours_26 : decode cX5_openHours 26 = .ok (.iload_n 1, 1) := by decide +kernel
theorem dX5_openHours_27 : decode cX5_openHours 27 = .ok (.aload_n 0, 1) := by decide +kernel
theorem dX5_openHours_28 : decode cX5_openHours 28 = .ok (.getfield 27, 3) := by decide +kernel
theorem dX5_openHours_31 : decode cX5_openHours 31 = .ok (.getfield 60, 3) := by decide +kernel
theorem dX5_openHours_34 : decode cX5_openHours 34 = .ok (.iload_n 2, 1) := by decide +kernel
theorem dX5_openHours_35 : decode cX5_openHours 35 = .ok (.iaload, 1) := by decide +kernel
theorem dX5_openHours_36 : decode cX5_openHours 36 = .ok (.iadd, 1) := by decide +kernel
theorem dX5_openHours_37 : decode cX5_openHours 37 = .ok (.istore_n 1, 1) := by decide +kernel
theorem dX5_openHours_38 : decode cX5_openHours 38 = .ok (.iinc 2 1, 3) := by decide +kernel
theorem dX5_openHours_41 : decode cX5_openHours 41 = .ok (.goto (-37), 3) := by decide +kernel
theorem dX5_openHours_44 : decode cX5_openHours 44 = .ok (.iload_n 1, 1) := by decide +kernel
theorem dX5_openHours_45 : decode cX5_openHours 45 = .ok (.ireturn, 1) := by decide +kernel
theorem dX5_parts_0 : decode cX5_parts 0 = .ok (.iconst 0, 1) := by decide +kernel
theorem dX5_parts_1 : decode cX5_parts 1 = .ok (.istore_n 1, 1) := by decide +kernel
theorem dX5_parts_2 : decode cX5_parts 2 = .ok (.iconst 0, 1) := by decide +kernel
theorem dX5_parts_3 : decode cX5_parts 3 = .ok (.istore_n 2, 1) := by decide +kernel
theorem dX5_parts_4 : decode cX5_parts 4 = .ok (.iconst 0, 1) := by decide +kernel
theorem dX5_parts_5 : decode cX5_parts 5 = .ok (.istore_n 3, 1) := by decide +kernel
theorem dX5_parts_6 : decode cX5_parts 6 = .ok (.iload_n 3, 1) := by decide +kernel
theorem dX5_parts_7 : decode cX5_parts 7 = .ok (.aload_n 0, 1) := by decide +kernel
theorem dX5_parts_8 : decode cX5_parts 8 = .ok (.getfield 23, 3) := by decide +kernel
theorem dX5_parts_11 : decode cX5_parts 11 = .ok (.getfield 52, 3) := by decide +kernel
theorem dX5_parts_14 : decode cX5_parts 14 = .ok (.if_icmp .ge 32, 3) := by decide +kernel
theorem dX5_parts_17 : decode cX5_parts 17 = .ok (.iload_n 2, 1) := by decide +kernel
theorem dX5_parts_18 : decode cX5_parts 18 = .ok (.iload_n 3, 1) := by decide +kernel
theorem dX5_parts_19 : decode cX5_parts 19 = .ok (.ishr, 1) := by decide +kernel
theorem dX5_parts_20 : decode cX5_parts 20 = .ok (.iconst 1, 1) := by decide +kernel
theorem dX5_parts_21 : decode cX5_parts 21 = .ok (.iand, 1) := by decide +kernel
theorem dX5_parts_22 : decode cX5_parts 22 = .ok (.ifCond .ne 18, 3) := by decide +kernel
theorem dX5_parts_25 : decode cX5_parts 25 = .ok (.iinc 1 1, 3) := by decide +kernel
theorem dX5_parts_28 : decode cX5_parts 28 = .ok (.iload_n 2, 1) := by decide +kernel
theorem dX5_parts_29 : decode cX5_parts 29 = .ok (.aload_n 0, 1) := by decide +kernel
theorem dX5_parts_30 : decode cX5_parts 30 = .ok (.iload_n 3, 1) := by decide +kernel
theorem dX5_parts_31 : decode cX5_parts 31 = .ok (.aload_n 0, 1) := by decide +kernel
theorem dX5_parts_32 : decode cX5_parts 32 = .ok (.getfield 49, 3) := by decide +kernel
theorem dX5_parts_35 : decode cX5_parts 35 = .ok (.invokevirtual 96, 3) := by decide +kernel
theorem dX5_parts_38 : decode cX5_parts 38 = .ok (.ior, 1) := by decide +kernel
theorem dX5_parts_39 : decode cX5_parts 39 = .ok (.istore_n 2, 1) := by decide +kernel
theorem dX5_parts_40 : decode cX5_parts 40 = .ok (.iinc 3 1, 3) := by decide +kernel
theorem dX5_parts_43 : decode cX5_parts 43 = .ok (.goto (-37), 3) := by decide +kernel
theorem dX5_parts_46 : decode cX5_parts 46 = .ok (.iload_n 1, 1) := by decide +kernel
theorem dX5_parts_47 : decode cX5_parts 47 = .ok (.ireturn, 1) := by decide +kernel
theorem dX7_init_0 : decode cX7_init 0 = .ok (.aload_n 0, 1) := by decide +kernel
theorem dX7_init_1 : decode cX7_init 1 = .ok (.invokespecial 3, 3) := by decide +kernel
theorem dX7_init_4 : decode cX7_init 4 = .ok (.aload_n 0, 1) := by decide +kernel
theorem dX7_init_5 : decode cX7_init 5 = .ok (.bipush 10, 2) := by decide +kernel
theorem dX7_init_7 : decode cX7_init 7 = .ok (.newarray .int, 2) := by decide +kernel
theorem dX7_init_9 : decode cX7_init 9 = .ok (.putfield 9, 3) := by decide +kernel
theorem dX7_init_12 : decode cX7_init 12 = .ok (.aload_n 0, 1) := by decide +kernel
theorem dX7_init_13 : decode cX7_init 13 = .ok (.bipush 10, 2) := by decide +kernel
theorem dX7_init_15 : decode cX7_init 15 = .ok (.newarray .int, 2) := by decide +kernel
theorem dX7_init_17 : decode cX7_init 17 = .ok (.putfield 15, 3) := by decide +kernel
theorem dX7_init_20 : decode cX7_init 20 = .ok (.aload_n 0, 1) := by decide +kernel
theorem dX7_init_21 : decode cX7_init 21 = .ok (.bipush 10, 2) := by decide +kernel
theorem dX7_init_23 : decode cX7_init 23 = .ok (.newarray .int, 2) := by decide +kernel
theorem dX7_init_25 : decode cX7_init 25 = .ok (.putfield 18, 3) := by decide +kernel
theorem dX7_init_28 : decode cX7_init 28 = .ok (.aload_n 0, 1) := by decide +kernel
theorem dX7_init_29 : decode cX7_init 29 = .ok (.bipush 10, 2) := by decide +kernel
theorem dX7_init_31 : decode cX7_init 31 = .ok (.newarray .boolean, 2) := by decide +kernel
theorem dX7_init_33 : decode cX7_init 33 = .ok (.putfield 21, 3) := by decide +kernel
theorem dX7_init_36 : decode cX7_init 36 = .ok (.aload_n 0, 1) := by decide +kernel
theorem dX7_init_37 : decode cX7_init 37 = .ok (.iconst 4, 1) := by decide +kernel
theorem dX7_init_38 : decode cX7_init 38 = .ok (.bipush 10, 2) := by decide +kernel
theorem dX7_init_40 : decode cX7_init 40 = .ok (.multianewarray 25 2, 4) := by decide +kernel
theorem dX7_init_44 : decode cX7_init 44 = .ok (.putfield 27, 3) := by decide +kernel
theorem dX7_init_47 : decode cX7_init 47 = .ok (.aload_n 0, 1) := by decide +kernel
theorem dX7_init_48 : decode cX7_init 48 = .ok (.aload_n 1, 1) := by decide +kernel
theorem dX7_init_49 : decode cX7_init 49 = .ok (.putfield 30, 3) := by decide +kernel
theorem dX7_init_52 : decode cX7_init 52 = .ok (.aload_n 0, 1) := by decide +kernel
theorem dX7_init_53 : decode cX7_init 53 = .ok (.aload_n 2, 1) := by decide +kernel
theorem dX7_init_54 : decode cX7_init 54 = .ok (.putfield 34, 3) := by decide +kernel
theorem dX7_init_57 : decode cX7_init 57 = .ok (.aload_n 0, 1) := by decide +kernel
theorem dX7_init_58 : decode cX7_init 58 = .ok (.aload_n 3, 1) := by decide +kernel
theorem dX7_init_59 : decode cX7_init 59 = .ok (.putfield 38, 3) := by decide +kernel
theorem dX7_init_62 : decode cX7_init 62 = .ok (.aload_n 0, 1) := by decide +kernel
theorem dX7_init_63 : decode cX7_init 63 = .ok (.aload 4, 2) := by decide +kernel
theorem dX7_init_65 : decode cX7_init 65 = .ok (.putfield 42, 3) := by decide +kernel
theorem dX7_init_68 : decode cX7_init 68 = .ok (.return_, 1) := by decide +kernel
theorem dX7_keep_0 : decode cX7_keep 0 = .ok (.aload_n 0, 1) := by decide +kernel
theorem dX7_keep_1 : decode cX7_keep 1 = .ok (.getfield 46, 3) := by decide +kernel
theorem dX7_keep_4 : decode cX7_keep 4 = .ok (.bipush 10, 2) := by decide +kernel
theorem dX7_keep_6 : decode cX7_keep 6 = .ok (.if_icmp .lt 5, 3) := by decide +kernel
theorem dX7_keep_9 : decode cX7_keep 9 = .ok (.iconst (-1), 1) := by decide +kernel
theorem dX7_keep_10 : decode cX7_keep 10 = .ok (.ireturn, 1) := by decide +kernel
theorem dX7_keep_11 : decode cX7_keep 11 = .ok (.aload_n 0, 1) := by decide +kernel
theorem dX7_keep_12 : decode cX7_keep 12 = .ok (.getfield 9, 3) := by decide +kernel
theorem dX7_keep_15 : decode cX7_keep 15 = .ok (.aload_n 0, 1) := by decide +kernel
theorem dX7_keep_16 : decode cX7_keep 16 = .ok (.getfield 46, 3) := by decide +kernel
theorem dX7_keep_19 : decode cX7_keep 19 = .ok (.iload_n 1, 1) := by decide +kernel
theorem dX7_keep_20 : decode cX7_keep 20 = .ok (.iastore, 1) := by decide +kernel
theorem dX7_keep_21 : decode cX7_keep 21 = .ok (.aload_n 0, 1) := by decide +kernel
theorem dX7_keep_22 : decode cX7_keep 22 = .ok (.getfield 15, 3) := by decide +kernel
theorem dX7_keep_25 : decode cX7_keep 25 = .ok (.aload_n 0, 1) := by decide +kernel
theorem dX7_keep_26 : decode cX7_keep 26 = .ok (.getfield 46, 3) := by decide +kernel
theorem dX7_keep_29 : decode cX7_keep 29 = .ok (.iload_n 2, 1) := by decide +kernel
theorem dX7_keep_30 : decode cX7_keep 30 = .ok (.iastore, 1) := by decide +kernel
theorem dX7_keep_31 : decode cX7_keep 31 = .ok (.aload_n 0, 1) := by decide +kernel
theorem dX7_keep_32 : decode cX7_keep 32 = .ok (.getfield 18, 3) := by decide +kernel
theorem dX7_keep_35 : decode cX7_keep 35 = .ok (.aload_n 0, 1) := by decide +kernel
theorem dX7_keep_36 : decode cX7_keep 36 = .ok (.getfield 46, 3) := by decide +kernel
theorem dX7_keep_39 : decode cX7_keep 39 = .ok (.iload_n 3, 1) := by decide +kernel
theorem dX7_keep_40 : decode cX7_keep 40 = .ok (.iastore, 1) := by decide +kernel
theorem dX7_keep_41 : decode cX7_keep 41 = .ok (.aload_n 0, 1) := by decide +kernel
theorem dX7_keep_42 : decode cX7_keep 42 = .ok (.getfield 21, 3) := by decide +kernel
theorem dX7_keep_45 : decode cX7_keep 45 = .ok (.aload_n 0, 1) := by decide +kernel
theorem dX7_keep_46 : decode cX7_keep 46 = .ok (.getfield 46, 3) := by decide +kernel
theorem dX7_keep_49 : decode cX7_keep 49 = .ok (.iload 4, 2) := by decide +kernel
theorem dX7_keep_51 : decode cX7_keep 51 = .ok (.bastore, 1) := by decide +kernel
theorem dX7_keep_52 : decode cX7_keep 52 = .ok (.aload_n 0, 1) := by decide +kernel
theorem dX7_keep_53 : decode cX7_keep 53 = .ok (.dup, 1) := by decide +kernel
theorem dX7_keep_54 : decode cX7_keep 54 = .ok (.getfield 46, 3) := by decide +kernel
theorem dX7_keep_57 : decode cX7_keep 57 = .ok (.iconst 1, 1) := by decide +kernel
theorem dX7_keep_58 : decode cX7_keep 58 = .ok (.iadd, 1) := by decide +kernel
theorem dX7_keep_59 : decode cX7_keep 59 = .ok (.putfield 46, 3) := by decide +kernel
theorem dX7_keep_62 : decode cX7_keep 62 = .ok (.aload_n 0, 1) := by decide +kernel
theorem dX7_keep_63 : decode cX7_keep 63 = .ok (.getfield 46, 3) := by decide +kernel
theorem dX7_keep_66 : decode cX7_keep 66 = .ok (.ireturn, 1) := by decide +kernel
theorem dX7_fittingWays_0 : decode cX7_fittingWays 0 = .ok (.iconst 0, 1) := by decide +kernel
theorem dX7_fittingWays_1 : decode cX7_fittingWays 1 = .ok (.istore_n 2, 1) := by decide +kernel
theorem dX7_fittingWays_2 : decode cX7_fittingWays 2 = .ok (.iconst 0, 1) := by decide +kernel
theorem dX7_fittingWays_3 : decode cX7_fittingWays 3 = .ok (.istore_n 3, 1) := by decide +kernel
theorem dX7_fittingWays_4 : decode cX7_fittingWays 4 = .ok (.iload_n 3, 1) := by decide +kernel
theorem dX7_fittingWays_5 : decode cX7_fittingWays 5 = .ok (.aload_n 0, 1) := by decide +kernel
theorem dX7_fittingWays_6 : decode cX7_fittingWays 6 = .ok (.getfield 34, 3) := by decide +kernel
theorem dX7_fittingWays_9 : decode cX7_fittingWays 9 = .ok (.getfield 50, 3) := by decide +kernel
theorem dX7_fittingWays_12 : decode cX7_fittingWays 12 = .ok (.if_icmp .ge 55, 3) := by decide +kernel
theorem dX7_fittingWays_15 : decode cX7_fittingWays 15 = .ok (.aload_n 0, 1) := by decide +kernel
theorem dX7_fittingWays_16 : decode cX7_fittingWays 16 = .ok (.getfield 34, 3) := by decide +kernel
theorem dX7_fittingWays_19 : decode cX7_fittingWays 19 = .ok (.iload_n 3, 1) := by decide +kernel
theorem dX7_fittingWays_20 : decode cX7_fittingWays 20 = .ok (.iconst 0, 1) := by decide +kernel
theorem dX7_fittingWays_21 : decode cX7_fittingWays 21 = .ok (.invokevirtual 53, 3) := by decide +kernel
theorem dX7_fittingWays_24 : decode cX7_fittingWays 24 = .ok (.aload_n 0, 1) := by decide +kernel
theorem dX7_fittingWays_25 : decode cX7_fittingWays 25 = .ok (.getfield 30, 3) := by decide +kernel
theorem dX7_fittingWays_28 : decode cX7_fittingWays 28 = .ok (.getfield 57, 3) := by decide +kernel
theorem dX7_fittingWays_31 : decode cX7_fittingWays 31 = .ok (.iload_n 1, 1) := by decide +kernel
theorem dX7_fittingWays_32 : decode cX7_fittingWays 32 = .ok (.iaload, 1) := by decide +kernel
theorem dX7_fittingWays_33 : decode cX7_fittingWays 33 = .ok (.if_icmp .ne 28, 3) := by decide +kernel
theorem dX7_fittingWays_36 : decode cX7_fittingWays 36 = .ok (.aload_n 0, 1) := by decide +kernel
theorem dX7_fittingWays_37 : decode cX7_fittingWays 37 = .ok (.iload_n 1, 1) := by decide +kernel
theorem dX7_fittingWays_38 : decode cX7_fittingWays 38 = .ok (.iload_n 3, 1) := by decide +kernel
theorem dX7_fittingWays_39 : decode cX7_fittingWays 39 = .ok (.invokevirtual 62, 3) := by decide +kernel
theorem dX7_fittingWays_42 : decode cX7_fittingWays 42 = .ok (.iload_n 2, 1) := by decide +kernel
theorem dX7_fittingWays_43 : decode cX7_fittingWays 43 = .ok (.aload_n 0, 1) := by decide +kernel
theorem dX7_fittingWays_44 : decode cX7_fittingWays 44 = .ok (.iload_n 1, 1) := by decide +kernel
theorem dX7_fittingWays_45 : decode cX7_fittingWays 45 = .ok (.iload_n 3, 1) := by decide +kernel
theorem dX7_fittingWays_46 : decode cX7_fittingWays 46 = .ok (.invokevirtual 66, 3) := by decide +kernel
theorem dX7_fittingWays_49 : decode cX7_fittingWays 49 = .ok (.ifCond .eq 9, 3) := by decide +kernel
theorem dX7_fittingWays_52 : decode cX7_fittingWays 52 = .ok (.iconst 1, 1) := by decide +kernel
theorem dX7_fittingWays_53 : decode cX7_fittingWays 53 = .ok (.iload_n 3, 1) := by decide +kernel
theorem dX7_fittingWays_54 : decode cX7_fittingWays 54 = .ok (.ishl, 1) := by decide +kernel
theorem dX7_fittingWays_55 : decode cX7_fittingWays 55 = .ok (.goto 4, 3) := by decide +kernel
theorem dX7_fittingWays_58 : decode cX7_fittingWays 58 = .ok (.iconst 0, 1) := by decide +kernel
theorem dX7_fittingWays_59 : decode cX7_fittingWays 59 = .ok (.ior, 1) := by decide +kernel
theorem dX7_fittingWays_60 : decode cX7_fittingWays 60 = .ok (.istore_n 2, 1) := by decide +kernel
theorem dX7_fittingWays_61 : decode cX7_fittingWays 61 = .ok (.iinc 3 1, 3) := by decide +kernel
theorem dX7_fittingWays_64 : decode cX7_fittingWays 64 = .ok (.goto (-60), 3) := by decide +kernel
theorem dX7_fittingWays_67 : decode cX7_fittingWays 67 = .ok (.iload_n 2, 1) := by decide +kernel
theorem dX7_fittingWays_68 : decode cX7_fittingWays 68 = .ok (.ireturn, 1) := by decide +kernel
theorem dX7_follow_0 : decode cX7_follow 0 = .ok (.aload_n 0, 1) := by decide +kernel
theorem dX7_follow_1 : decode cX7_follow 1 = .ok (.getfield 42, 3) := by decide +kernel
theorem dX7_follow_4 : decode cX7_follow 4 = .ok (.aload_n 0, 1) := by decide +kernel
theorem dX7_follow_5 : decode cX7_follow 5 = .ok (.getfield 30, 3) := by decide +kernel
theorem dX7_follow_8 : decode cX7_follow 8 = .ok (.invokevirtual 70, 3) := by decide +kernel
theorem dX7_follow_11 : decode cX7_follow 11 = .ok (.aload_n 0, 1) := by decide +kernel
theorem dX7_follow_12 : decode cX7_follow 12 = .ok (.getfield 42, 3) := by decide +kernel
theorem dX7_follow_15 : decode cX7_follow 15 = .ok (.iload_n 1, 1) := by decide +kernel
theorem dX7_follow_16 : decode cX7_follow 16 = .ok (.iload_n 2, 1) := by decide +kernel
theorem dX7_follow_17 : decode cX7_follow 17 = .ok (.invokevirtual 76, 3) := by decide +kernel
theorem dX7_follow_20 : decode cX7_follow 20 = .ok (.iconst 1, 1) := by decide +kernel
theorem dX7_follow_21 : decode cX7_follow 21 = .ok (.istore_n 3, 1) := by decide +kernel
theorem dX7_follow_22 : decode cX7_follow 22 = .ok (.iload_n 3, 1) := by decide +kernel
theorem dX7_follow_23 : decode cX7_follow 23 = .ok (.bipush 9, 2) := by decide +kernel
theorem dX7_follow_25 : decode cX7_follow 25 = .ok (.if_icmp .gt 38, 3) := by decide +kernel
theorem dX7_follow_28 : decode cX7_follow 28 = .ok (.aload_n 0, 1) := by decide +kernel
theorem dX7_follow_29 : decode cX7_follow 29 = .ok (.getfield 38, 3) := by decide +kernel
theorem dX7_follow_32 : decode cX7_follow 32 = .ok (.aload_n 0, 1) := by decide +kernel
theorem dX7_follow_33 : decode cX7_follow 33 = .ok (.getfield 42, 3) := by decide +kernel
theorem dX7_follow_36 : decode cX7_follow 36 = .ok (.invokevirtual 79, 3) := by decide +kernel
theorem dX7_follow_39 : decode cX7_follow 39 = .ok (.pop, 1) := by decide +kernel
theorem dX7_follow_40 : decode cX7_follow 40 = .ok (.aload_n 0, 1) := by decide +kernel
theorem dX7_follow_41 : decode cX7_follow 41 = .ok (.getfield 27, 3) := by decide +kernel
theorem dX7_follow_44 : decode cX7_follow 44 = .ok (.iload_n 2, 1) := by decide +kernel
theorem dX7_follow_45 : decode cX7_follow 45 = .ok (.aaload, 1) := by decide +kernel
theorem dX7_follow_46 : decode cX7_follow 46 = .ok (.iload_n 3, 1) := by decide +kernel
theorem dX7_follow_47 : decode cX7_follow 47 = .ok (.aload_n 0, 1) := by decide +kernel
theorem dX7_follow_48 : decode cX7_follow 48 = .ok (.getfield 42, 3) := by decide +kernel
theorem dX7_follow_51 : decode cX7_follow 51 = .ok (.getfield 85, 3) := by decide +kernel
theorem dX7_follow_54 : decode cX7_follow 54 = .ok (.iload_n 1, 1) := by decide +kernel
theorem dX7_follow_55 : decode cX7_follow 55 = .ok (.iaload, 1) := by decide +kernel
theorem dX7_follow_56 : decode cX7_follow 56 = .ok (.iastore, 1) := by decide +kernel
theorem dX7_follow_57 : decode cX7_follow 57 = .ok (.iinc 3 1, 3) := by decide +kernel
theorem dX7_follow_60 : decode cX7_follow 60 = .ok (.goto (-38), 3) := by decide +kernel
theorem dX7_follow_63 : decode cX7_follow 63 = .ok (.return_, 1) := by decide +kernel
theorem dX7_agrees_0 : decode cX7_agrees 0 = .ok (.iconst 0, 1) := by decide +kernel
theorem dX7_agrees_1 : decode cX7_agrees 1 = .ok (.istore_n 3, 1) := by decide +kernel
theorem dX7_agrees_2 : decode cX7_agrees 2 = .ok (.iload_n 3, 1) := by decide +kernel
theorem dX7_agrees_3 : decode cX7_agrees 3 = .ok (.aload_n 0, 1) := by decide +kernel
theorem dX7_agrees_4 : decode cX7_agrees 4 = .ok (.getfield 46, 3) := by decide +kernel
theorem dX7_agrees_7 : decode cX7_agrees 7 = .ok (.if_icmp .ge 57, 3) := by decide +kernel
theorem dX7_agrees_10 : decode cX7_agrees 10 = .ok (.aload_n 0, 1) := by decide +kernel
theorem dX7_agrees_11 : decode cX7_agrees 11 = .ok (.getfield 9, 3) := by decide +kernel
theorem dX7_agrees_14 : decode cX7_agrees 14 = .ok (.iload_n 3, 1) := by decide +kernel
theorem dX7_agrees_15 : decode cX7_agrees 15 = .ok (.iaload, 1) := by decide +kernel
theorem dX7_agrees_16 : decode cX7_agrees 16 = .ok (.iload_n 1, 1) := by decide +kernel
theorem dX7_agrees_17 : decode cX7_agrees 17 = .ok (.if_icmp .ne 41, 3) := by decide +kernel
theorem dX7_agrees_20 : decode cX7_agrees 20 = .ok (.aload_n 0, 1) := by decide +kernel
theorem dX7_agrees_21 : decode cX7_agrees 21 = .ok (.getfield 27, 3) := by decide +kernel
theorem dX7_agrees_24 : decode cX7_agrees 24 = .ok (.iload_n 2, 1) := by decide +kernel
theorem dX7_agrees_25 : decode cX7_agrees 25 = .ok (.aaload, 1) := by decide +kernel
theorem dX7_agrees_26 : decode cX7_agrees 26 = .ok (.aload_n 0, 1) := by decide +kernel
theorem dX7_agrees_27 : decode cX7_agrees 27 = .ok (.getfield 18, 3) := by decide +kernel
theorem dX7_agrees_30 : decode cX7_agrees 30 = .ok (.iload_n 3, 1) := by decide +kernel
theorem dX7_agrees_31 : decode cX7_agrees 31 = .ok (.iaload, 1) := by decide +kernel
theorem dX7_agrees_32 : decode cX7_agrees 32 = .ok (.iaload, 1) := by decide +kernel
theorem dX7_agrees_33 : decode cX7_agrees 33 = .ok (.aload_n 0, 1) := by decide +kernel
theorem dX7_agrees_34 : decode cX7_agrees 34 = .ok (.getfield 15, 3) := by decide +kernel
theorem dX7_agrees_37 : decode cX7_agrees 37 = .ok (.iload_n 3, 1) := by decide +kernel
theorem dX7_agrees_38 : decode cX7_agrees 38 = .ok (.iaload, 1) := by decide +kernel
theorem dX7_agrees_39 : decode cX7_agrees 39 = .ok (.if_icmp .ne 7, 3) := by decide +kernel
theorem dX7_agrees_42 : decode cX7_agrees 42 = .ok (.iconst 1, 1) := by decide +kernel
theorem dX7_agrees_43 : decode cX7_agrees 43 = .ok (.goto 4, 3) := by decide +kernel
theorem dX7_agrees_46 : decode cX7_agrees 46 = .ok (.iconst 0, 1) := by decide +kernel
theorem dX7_agrees_47 : decode cX7_agrees 47 = .ok (.aload_n 0, 1) := by decide +kernel
theorem dX7_agrees_48 : decode cX7_agrees 48 = .ok (.getfield 21, 3) := by decide +kernel
theorem dX7_agrees_51 : decode cX7_agrees 51 = .ok (.iload_n 3, 1) := by decide +kernel
theorem dX7_agrees_52 : decode cX7_agrees 52 = .ok (.baload, 1) := by decide +kernel
theorem dX7_agrees_53 : decode cX7_agrees 53 = .ok (.if_icmp .eq 5, 3) := by decide +kernel
theorem dX7_agrees_56 : decode cX7_agrees 56 = .ok (.iconst 0, 1) := by decide +kernel
theorem dX7_agrees_57 : decode cX7_agrees 57 = .ok (.ireturn, 1) := by decide +kernel
theorem dX7_agrees_58 : decode cX7_agrees 58 = .ok (.iinc 3 1, 3) := by decide +kernel
theorem dX7_agrees_61 : decode cX7_agrees 61 = .ok (.goto (-59), 3) := by decide +kernel
theorem dX7_agrees_64 : decode cX7_agrees 64 = .ok (.iconst 1, 1) := by decide +kernel
theorem dX7_agrees_65 : decode cX7_agrees 65 = .ok (.ireturn, 1) := by decide +kernel
theorem dX7_bestDayFor_0 : decode cX7_bestDayFor 0 = .ok (.iconst 1, 1) := by decide +kernel
theorem dX7_bestDayFor_1 : decode cX7_bestDayFor 1 = .ok (.istore_n 2, 1) := by decide +kernel
theorem dX7_bestDayFor_2 : decode cX7_bestDayFor 2 = .ok (.iconst 2, 1) := by decide +kernel
theorem dX7_bestDayFor_3 : decode cX7_bestDayFor 3 = .ok (.istore_n 3, 1) := by decide +kernel
theorem dX7_bestDayFor_4 : decode cX7_bestDayFor 4 = .ok (.iload_n 3, 1) := by decide +kernel
theorem dX7_bestDayFor_5 : decode cX7_bestDayFor 5 = .ok (.bipush 9, 2) := by decide +kernel
theorem dX7_bestDayFor_7 : decode cX7_bestDayFor 7 = .ok (.if_icmp .gt 26, 3) := by decide +kernel
theorem dX7_bestDayFor_10 : decode cX7_bestDayFor 10 = .ok (.aload_n 0, 1) := by decide +kernel
theorem dX7_bestDayFor_11 : decode cX7_bestDayFor 11 = .ok (.iload_n 1, 1) := by decide +kernel
theorem dX7_bestDayFor_12 : decode cX7_bestDayFor 12 = .ok (.iload_n 3, 1) := by decide +kernel
theorem dX7_bestDayFor_13 : decode cX7_bestDayFor 13 = .ok (.invokevirtual 88, 3) := by decide +kernel
theorem dX7_bestDayFor_16 : decode cX7_bestDayFor 16 = .ok (.aload_n 0, 1) := by decide +kernel
theorem dX7_bestDayFor_17 : decode cX7_bestDayFor 17 = .ok (.iload_n 1, 1) := by decide +kernel
theorem dX7_bestDayFor_18 : decode cX7_bestDayFor 18 = .ok (.iload_n 2, 1) := by decide +kernel
theorem dX7_bestDayFor_19 : decode cX7_bestDayFor 19 = .ok (.invokevirtual 88, 3) := by decide +kernel
theorem dX7_bestDayFor_22 : decode cX7_bestDayFor 22 = .ok (.if_icmp .ge 5, 3) := by decide +kernel
theorem dX7_bestDayFor_25 : decode cX7_bestDayFor 25 = .ok (.iload_n 3, 1) := by decide +kernel
theorem dX7_bestDayFor_26 : decode cX7_bestDayFor 26 = .ok (.istore_n 2, 1) := by decide +kernel
theorem dX7_bestDayFor_27 : decode cX7_bestDayFor 27 = .ok (.iinc 3 1, 3) := by decide +kernel
theorem dX7_bestDayFor_30 : decode cX7_bestDayFor 30 = .ok (.goto (-26), 3) := by decide +kernel
theorem dX7_bestDayFor_33 : decode cX7_bestDayFor 33 = .ok (.iload_n 2, 1) := by decide +kernel
theorem dX7_bestDayFor_34 : decode cX7_bestDayFor 34 = .ok (.ireturn, 1) := by decide +kernel
theorem dX7_mostAlike_0 : decode cX7_mostAlike 0 = .ok (.iconst 0, 1) := by decide +kernel
theorem dX7_mostAlike_1 : decode cX7_mostAlike 1 = .ok (.istore_n 3, 1) := by decide +kernel
theorem dX7_mostAlike_2 : decode cX7_mostAlike 2 = .ok (.iconst 0, 1) := by decide +kernel
theorem dX7_mostAlike_3 : decode cX7_mostAlike 3 = .ok (.istore 4, 2) := by decide +kernel
theorem dX7_mostAlike_5 : decode cX7_mostAlike 5 = .ok (.iload 4, 2) := by decide +kernel
theorem dX7_mostAlike_7 : decode cX7_mostAlike 7 = .ok (.aload_n 0, 1) := by decide +kernel
theorem dX7_mostAlike_8 : decode cX7_mostAlike 8 = .ok (.getfield 30, 3) := by decide +kernel
theorem dX7_mostAlike_11 : decode cX7_mostAlike 11 = .ok (.getfield 91, 3) := by decide +kernel
theorem dX7_mostAlike_14 : decode cX7_mostAlike 14 = .ok (.if_icmp .ge 66, 3) := by decide +kernel
theorem dX7_mostAlike_17 : decode cX7_mostAlike 17 = .ok (.iconst 0, 1) := by decide +kernel
theorem dX7_mostAlike_18 : decode cX7_mostAlike 18 = .ok (.istore 5, 2) := by decide +kernel
theorem dX7_mostAlike_20 : decode cX7_mostAlike 20 = .ok (.iconst 0, 1) := by decide +kernel
theorem dX7_mostAlike_21 : decode cX7_mostAlike 21 = .ok (.istore 6, 2) := by decide +kernel
theorem dX7_mostAlike_23 : decode cX7_mostAlike 23 = .ok (.iload 6, 2) := by decide +kernel
theorem dX7_mostAlike_25 : decode cX7_mostAlike 25 = .ok (.aload_n 0, 1) := by decide +kernel
theorem dX7_mostAlike_26 : decode cX7_mostAlike 26 = .ok (.getfield 34, 3) := by decide +kernel
theorem dX7_mostAlike_29 : decode cX7_mostAlike 29 = .ok (.getfield 50, 3) := by decide +kernel
theorem dX7_mostAlike_32 : decode cX7_mostAlike 32 = .ok (.if_icmp .ge 35, 3) := by decide +kernel
theorem dX7_mostAlike_35 : decode cX7_mostAlike 35 = .ok (.iload_n 1, 1) := by decide +kernel
theorem dX7_mostAlike_36 : decode cX7_mostAlike 36 = .ok (.iload 6, 2) := by decide +kernel
theorem dX7_mostAlike_38 : decode cX7_mostAlike 38 = .ok (.ishr, 1) := by decide +kernel
theorem dX7_mostAlike_39 : decode cX7_mostAlike 39 = .ok (.iconst 1, 1) := by decide +kernel
theorem dX7_mostAlike_40 : decode cX7_mostAlike 40 = .ok (.iand, 1) := by decide +kernel
theorem dX7_mostAlike_41 : decode cX7_mostAlike 41 = .ok (.ifCond .eq 20, 3) := by decide +kernel
theorem dX7_mostAlike_44 : decode cX7_mostAlike 44 = .ok (.aload_n 0, 1) := by decide +kernel
theorem dX7_mostAlike_45 : decode cX7_mostAlike 45 = .ok (.getfield 27, 3) := by decide +kernel
theorem dX7_mostAlike_48 : decode cX7_mostAlike 48 = .ok (.iload 6, 2) := by decide +kernel
theorem dX7_mostAlike_50 : decode cX7_mostAlike 50 = .ok (.aaload, 1) := by decide +kernel
theorem dX7_mostAlike_51 : decode cX7_mostAlike 51 = .ok (.iload_n 2, 1) := by decide +kernel
theorem dX7_mostAlike_52 : decode cX7_mostAlike 52 = .ok (.iaload, 1) := by decide +kernel
theorem dX7_mostAlike_53 : decode cX7_mostAlike 53 = .ok (.iload 4, 2) := by decide +kernel
theorem dX7_mostAlike_55 : decode cX7_mostAlike 55 = .ok (.if_icmp .ne 6, 3) := by decide +kernel
theorem dX7_mostAlike_58 : decode cX7_mostAlike 58 = .ok (.iinc 5 1, 3) := by decide +kernel
theorem dX7_mostAlike_61 : decode cX7_mostAlike 61 = .ok (.iinc 6 1, 3) := by decide +kernel
theorem dX7_mostAlike_64 : decode cX7_mostAlike 64 = .ok (.goto (-41), 3) := by decide +kernel
theorem dX7_mostAlike_67 : decode cX7_mostAlike 67 = .ok (.iload_n 3, 1) := by decide +kernel
theorem dX7_mostAlike_68 : decode cX7_mostAlike 68 = .ok (.iload 5, 2) := by decide +kernel
theorem dX7_mostAlike_70 : decode cX7_mostAlike 70 = .ok (.invokestatic 93, 3) := by decide +kernel
theorem dX7_mostAlike_73 : decode cX7_mostAlike 73 = .ok (.istore_n 3, 1) := by decide +kernel
theorem dX7_mostAlike_74 : decode cX7_mostAlike 74 = .ok (.iinc 4 1, 3) := by decide +kernel
theorem dX7_mostAlike_77 : decode cX7_mostAlike 77 = .ok (.goto (-72), 3) := by decide +kernel
theorem dX7_mostAlike_80 : decode cX7_mostAlike 80 = .ok (.iload_n 3, 1) := by decide +kernel
theorem dX7_mostAlike_81 : decode cX7_mostAlike 81 = .ok (.ireturn, 1) := by decide +kernel
theorem dX2_init_0 : decode cX2_init 0 = .ok (.aload_n 0, 1) := by decide +kernel
theorem dX2_init_1 : decode cX2_init 1 = .ok (.invokespecial 3, 3) := by decide +kernel
theorem dX2_init_4 : decode cX2_init 4 = .ok (.aload_n 0, 1) := by decide +kernel
theorem dX2_init_5 : decode cX2_init 5 = .ok (.aload_n 1, 1) := by decide +kernel
theorem dX2_init_6 : decode cX2_init 6 = .ok (.putfield 9, 3) := by decide +kernel
theorem dX2_init_9 : decode cX2_init 9 = .ok (.aload_n 0, 1) := by decide +kernel
theorem dX2_init_10 : decode cX2_init 10 = .ok (.aload_n 2, 1) := by decide +kernel
theorem dX2_init_11 : decode cX2_init 11 = .ok (.putfield 15, 3) := by decide +kernel
theorem dX2_init_14 : decode cX2_init 14 = .ok (.aload_n 0, 1) := by decide +kernel
theorem dX2_init_15 : decode cX2_init 15 = .ok (.aload_n 3, 1) := by decide +kernel
theorem dX2_init_16 : decode cX2_init 16 = .ok (.putfield 19, 3) := by decide +kernel
theorem dX2_init_19 : decode cX2_init 19 = .ok (.return_, 1) := by decide +kernel
theorem dX2_findTour_0 : decode cX2_findTour 0 = .ok (.aload_n 0, 1) := by decide +kernel
theorem dX2_findTour_1 : decode cX2_findTour 1 = .ok (.iload_n 1, 1) := by decide +kernel
theorem dX2_findTour_2 : decode cX2_findTour 2 = .ok (.putfield 23, 3) := by decide +kernel
theorem dX2_findTour_5 : decode cX2_findTour 5 = .ok (.aload_n 0, 1) := by decide +kernel
theorem dX2_findTour_6 : decode cX2_findTour 6 = .ok (.ldc 29, 2) := by decide +kernel
theorem dX2_findTour_8 : decode cX2_findTour 8 = .ok (.putfield 30, 3) := by decide +kernel
theorem dX2_findTour_11 : decode cX2_findTour 11 = .ok (.aload_n 0, 1) := by decide +kernel
theorem dX2_findTour_12 : decode cX2_findTour 12 = .ok (.iconst (-1), 1) := by decide +kernel
theorem dX2_findTour_13 : decode cX2_findTour 13 = .ok (.putfield 33, 3) := by decide +kernel
theorem dX2_findTour_16 : decode cX2_findTour 16 = .ok (.iload_n 2, 1) := by decide +kernel
theorem dX2_findTour_17 : decode cX2_findTour 17 = .ok (.iload_n 1, 1) := by decide +kernel
theorem dX2_findTour_18 : decode cX2_findTour 18 = .ok (.ishr, 1) := by decide +kernel
theorem dX2_findTour_19 : decode cX2_findTour 19 = .ok (.iconst 1, 1) := by decide +kernel
theorem dX2_findTour_20 : decode cX2_findTour 20 = .ok (.iand, 1) := by decide +kernel
theorem dX2_findTour_21 : decode cX2_findTour 21 = .ok (.ifCond .eq 7, 3) := by decide +kernel
theorem dX2_findTour_24 : decode cX2_findTour 24 = .ok (.iconst 1, 1) := by decide +kernel
theorem dX2_findTour_25 : decode cX2_findTour 25 = .ok (.goto 4, 3) := by decide +kernel
theorem dX2_findTour_28 : decode cX2_findTour 28 = .ok (.iconst 0, 1) := by decide +kernel
theorem dX2_findTour_29 : decode cX2_findTour 29 = .ok (.istore_n 3, 1) := by decide +kernel
theorem dX2_findTour_30 : decode cX2_findTour 30 = .ok (.aload_n 0, 1) := by decide +kernel
theorem dX2_findTour_31 : decode cX2_findTour 31 = .ok (.iload_n 1, 1) := by decide +kernel
theorem dX2_findTour_32 : decode cX2_findTour 32 = .ok (.iload_n 2, 1) := by decide +kernel
theorem dX2_findTour_33 : decode cX2_findTour 33 = .ok (.iconst 1, 1) := by decide +kernel
theorem dX2_findTour_34 : decode cX2_findTour 34 = .ok (.iload_n 1, 1) := by decide +kernel
theorem dX2_findTour_35 : decode cX2_findTour 35 = .ok (.ishl, 1) := by decide +kernel
theorem dX2_findTour_36 : decode cX2_findTour 36 = .ok (.iconst (-1), 1) := by decide +kernel
theorem dX2_findTour_37 : decode cX2_findTour 37 = .ok (.ixor, 1) := by decide +kernel
theorem dX2_findTour_38 : decode cX2_findTour 38 = .ok (.iand, 1) := by decide +kernel
theorem dX2_findTour_39 : decode cX2_findTour 39 = .ok (.iconst 0, 1) := by decide +kernel
theorem dX2_findTour_40 : decode cX2_findTour 40 = .ok (.iload_n 3, 1) := by decide +kernel
theorem dX2_findTour_41 : decode cX2_findTour 41 = .ok (.ifCond .eq 7, 3) := by decide +kernel
theorem dX2_findTour_44 : decode cX2_findTour 44 = .ok (.iload_n 1, 1) := by decide +kernel
theorem dX2_findTour_45 : decode cX2_findTour 45 = .ok (.goto 4, 3) := by decide +kernel
theorem dX2_findTour_48 : decode cX2_findTour 48 = .ok (.iconst 0, 1) := by decide +kernel
theorem dX2_findTour_49 : decode cX2_findTour 49 = .ok (.invokevirtual 36, 3) := by decide +kernel
theorem dX2_findTour_52 : decode cX2_findTour 52 = .ok (.aload_n 0, 1) := by decide +kernel
theorem dX2_findTour_53 : decode cX2_findTour 53 = .ok (.getfield 30, 3) := by decide +kernel
theorem dX2_findTour_56 : decode cX2_findTour 56 = .ok (.ldc 29, 2) := by decide +kernel
theorem dX2_findTour_58 : decode cX2_findTour 58 = .ok (.if_icmp .ge 7, 3) := by decide +kernel
theorem dX2_findTour_61 : decode cX2_findTour 61 = .ok (.iconst 1, 1) := by decide +kernel
theorem dX2_findTour_62 : decode cX2_findTour 62 = .ok (.goto 4, 3) := by decide +kernel
theorem dX2_findTour_65 : decode cX2_findTour 65 = .ok (.iconst 0, 1) := by decide +kernel
theorem dX2_findTour_66 : decode cX2_findTour 66 = .ok (.ireturn, 1) := by decide +kernel
theorem dX2_goOnTour_0 : decode cX2_goOnTour 0 = .ok (.iload_n 2, 1) := by decide +kernel
theorem dX2_goOnTour_1 : decode cX2_goOnTour 1 = .ok (.ifCond .ne 43, 3) := by decide +kernel
theorem dX2_goOnTour_4 : decode cX2_goOnTour 4 = .ok (.iload_n 3, 1) := by decide +kernel
theorem dX2_goOnTour_5 : decode cX2_goOnTour 5 = .ok (.aload_n 0, 1) := by decide +kernel
theorem dX2_goOnTour_6 : decode cX2_goOnTour 6 = .ok (.getfield 19, 3) := by decide +kernel
theorem dX2_goOnTour_9 : decode cX2_goOnTour 9 = .ok (.getfield 40, 3) := by decide +kernel
theorem dX2_goOnTour_12 : decode cX2_goOnTour 12 = .ok (.iload_n 1, 1) := by decide +kernel
theorem dX2_goOnTour_13 : decode cX2_goOnTour 13 = .ok (.aaload, 1) := by decide +kernel
theorem dX2_goOnTour_14 : decode cX2_goOnTour 14 = .ok (.aload_n 0, 1) := by decide +kernel
theorem dX2_goOnTour_15 : decode cX2_goOnTour 15 = .ok (.getfield 23, 3) := by decide +kernel
theorem dX2_goOnTour_18 : decode cX2_goOnTour 18 = .ok (.iaload, 1) := by decide +kernel
theorem dX2_goOnTour_19 : decode cX2_goOnTour 19 = .ok (.iadd, 1) := by decide +kernel
theorem dX2_goOnTour_20 : decode cX2_goOnTour 20 = .ok (.istore 5, 2) := by decide +kernel
theorem dX2_goOnTour_22 : decode cX2_goOnTour 22 = .ok (.iload 5, 2) := by decide +kernel
theorem dX2_goOnTour_24 : decode cX2_goOnTour 24 = .ok (.aload_n 0, 1) := by decide +kernel
theorem dX2_goOnTour_25 : decode cX2_goOnTour 25 = .ok (.getfield 30, 3) := by decide +kernel
theorem dX2_goOnTour_28 : decode cX2_goOnTour 28 = .ok (.if_icmp .ge 15, 3) := by decide +kernel
theorem dX2_goOnTour_31 : decode cX2_goOnTour 31 = .ok (.aload_n 0, 1) := by decide +kernel
theorem dX2_goOnTour_32 : decode cX2_goOnTour 32 = .ok (.iload 5, 2) := by decide +kernel
theorem dX2_goOnTour_34 : decode cX2_goOnTour 34 = .ok (.putfield 30, 3) := by decide +kernel
theorem dX2_goOnTour_37 : decode cX2_goOnTour 37 = .ok (.aload_n 0, 1) := by decide +kernel
theorem dX2_goOnTour_38 : decode cX2_goOnTour 38 = .ok (.iload 4, 2) := by decide +kernel
theorem dX2_goOnTour_40 : decode cX2_goOnTour 40 = .ok (.putfield 33, 3) := by decide +kernel
theorem dX2_goOnTour_43 : decode cX2_goOnTour 43 = .ok (.return_, 1) := by decide +kernel
theorem dX2_goOnTour_44 : decode cX2_goOnTour 44 = .ok (.iconst 0, 1) := by decide +kernel
theorem dX2_goOnTour_45 : decode cX2_goOnTour 45 = .ok (.istore 5, 2) := by decide +kernel
theorem dX2_goOnTour_47 : decode cX2_goOnTour 47 = .ok (.iload 5, 2) := by decide +kernel
theorem dX2_goOnTour_49 : decode cX2_goOnTour 49 = .ok (.aload_n 0, 1) := by decide +kernel
theorem dX2_goOnTour_50 : decode cX2_goOnTour 50 = .ok (.getfield 9, 3) := by decide +kernel
theorem dX2_goOnTour_53 : decode cX2_goOnTour 53 = .ok (.getfield 44, 3) := by decide +kernel
theorem dX2_goOnTour_56 : decode cX2_goOnTour 56 = .ok (.if_icmp .ge 67, 3) := by decide +kernel
theorem dX2_goOnTour_59 : decode cX2_goOnTour 59 = .ok (.iload_n 2, 1) := by decide +kernel
theorem dX2_goOnTour_60 : decode cX2_goOnTour 60 = .ok (.iload 5, 2) := by decide +kernel
theorem dX2_goOnTour_62 : decode cX2_goOnTour 62 = .ok (.ishr, 1) := by decide +kernel
theorem dX2_goOnTour_63 : decode cX2_goOnTour 63 = .ok (.iconst 1, 1) := by decide +kernel
theorem dX2_goOnTour_64 : decode cX2_goOnTour 64 = .ok (.iand, 1) := by decide +kernel
theorem dX2_goOnTour_65 : decode cX2_goOnTour 65 = .ok (.ifCond .eq 52, 3) := by decide +kernel
theorem dX2_goOnTour_68 : decode cX2_goOnTour 68 = .ok (.aload_n 0, 1) := by decide +kernel
theorem dX2_goOnTour_69 : decode cX2_goOnTour 69 = .ok (.getfield 19, 3) := by decide +kernel
theorem dX2_goOnTour_72 : decode cX2_goOnTour 72 = .ok (.iload_n 1, 1) := by decide +kernel
theorem dX2_goOnTour_73 : decode cX2_goOnTour 73 = .ok (.iload 5, 2) := by decide +kernel
theorem dX2_goOnTour_75 : decode cX2_goOnTour 75 = .ok (.invokevirtual 49, 3) := by decide +kernel
theorem dX2_goOnTour_78 : decode cX2_goOnTour 78 = .ok (.ifCond .eq 39, 3) := by decide +kernel
theorem dX2_goOnTour_81 : decode cX2_goOnTour 81 = .ok (.aload_n 0, 1) := by decide +kernel
theorem dX2_goOnTour_82 : decode cX2_goOnTour 82 = .ok (.iload 5, 2) := by decide +kernel
theorem dX2_goOnTour_84 : decode cX2_goOnTour 84 = .ok (.iload_n 2, 1) := by decide +kernel
theorem dX2_goOnTour_85 : decode cX2_goOnTour 85 = .ok (.iconst 1, 1) := by decide +kernel
theorem dX2_goOnTour_86 : decode cX2_goOnTour 86 = .ok (.iload 5, 2) := by decide +kernel
theorem dX2_goOnTour_88 : decode cX2_goOnTour 88 = .ok (.ishl, 1) := by decide +kernel
theorem dX2_goOnTour_89 : decode cX2_goOnTour 89 = .ok (.iconst (-1), 1) := by decide +kernel
theorem dX2_goOnTour_90 : decode cX2_goOnTour 90 = .ok (.ixor, 1) := by decide +kernel
theorem dX2_goOnTour_91 : decode cX2_goOnTour 91 = .ok (.iand, 1) := by decide +kernel
theorem dX2_goOnTour_92 : decode cX2_goOnTour 92 = .ok (.iload_n 3, 1) := by decide +kernel
theorem dX2_goOnTour_93 : decode cX2_goOnTour 93 = .ok (.aload_n 0, 1) := by decide +kernel
theorem dX2_goOnTour_94 : decode cX2_goOnTour 94 = .ok (.getfield 19, 3) := by decide +kernel
theorem dX2_goOnTour_97 : decode cX2_goOnTour 97 = .ok (.getfield 40, 3) := by decide +kernel
theorem dX2_goOnTour_100 : decode cX2_goOnTour 100 = .ok (.iload_n 1, 1) := by decide +kernel
theorem dX2_goOnTour_101 : decode cX2_goOnTour 101 = .ok (.aaload, 1) := by decide +kernel
theorem dX2_goOnTour_102 : decode cX2_goOnTour 102 = .ok (.iload 5, 2) := by decide +kernel
theorem dX2_goOnTour_104 : decode cX2_goOnTour 104 = .ok (.iaload, 1) := by decide +kernel
theorem dX2_goOnTour_105 : decode cX2_goOnTour 105 = .ok (.iadd, 1) := by decide +kernel
theorem dX2_goOnTour_106 : decode cX2_goOnTour 106 = .ok (.iload 4, 2) := by decide +kernel
theorem dX2_goOnTour_108 : decode cX2_goOnTour 108 = .ok (.bipush 10, 2) := by decide +kernel
theorem dX2_goOnTour_110 : decode cX2_goOnTour 110 = .ok (.imul, 1) := by decide +kernel
theorem dX2_goOnTour_111 : decode cX2_goOnTour 111 = .ok (.iload 5, 2) := by decide +kernel
theorem dX2_goOnTour_113 : decode cX2_goOnTour 113 = .ok (.iadd, 1) := by decide +kernel
theorem dX2_goOnTour_114 : decode cX2_goOnTour 114 = .ok (.invokevirtual 36, 3) := by decide +kernel
theorem dX2_goOnTour_117 : decode cX2_goOnTour 117 = .ok (.iinc 5 1, 3) := by decide +kernel
theorem dX2_goOnTour_120 : decode cX2_goOnTour 120 = .ok (.goto (-73), 3) := by decide +kernel
theorem dX2_goOnTour_123 : decode cX2_goOnTour 123 = .ok (.return_, 1) := by decide +kernel
theorem dX2_findDoors_0 : decode cX2_findDoors 0 = .ok (.aload_n 0, 1) := by decide +kernel
theorem dX2_findDoors_1 : decode cX2_findDoors 1 = .ok (.iconst (-1), 1) := by decide +kernel
theorem dX2_findDoors_2 : decode cX2_findDoors 2 = .ok (.putfield 53, 3) := by decide +kernel
theorem dX2_findDoors_5 : decode cX2_findDoors 5 = .ok (.aload_n 0, 1) := by decide +kernel
theorem dX2_findDoors_6 : decode cX2_findDoors 6 = .ok (.iconst 0, 1) := by decide +kernel
theorem dX2_findDoors_7 : decode cX2_findDoors 7 = .ok (.putfield 30, 3) := by decide +kernel
theorem dX2_findDoors_10 : decode cX2_findDoors 10 = .ok (.aload_n 0, 1) := by decide +kernel
theorem dX2_findDoors_11 : decode cX2_findDoors 11 = .ok (.iconst (-1), 1) := by decide +kernel
theorem dX2_findDoors_12 : decode cX2_findDoors 12 = .ok (.putfield 33, 3) := by decide +kernel
theorem dX2_findDoors_15 : decode cX2_findDoors 15 = .ok (.aload_n 0, 1) := by decide +kernel
theorem dX2_findDoors_16 : decode cX2_findDoors 16 = .ok (.iconst 0, 1) := by decide +kernel
theorem dX2_findDoors_17 : decode cX2_findDoors 17 = .ok (.iload_n 1, 1) := by decide +kernel
theorem dX2_findDoors_18 : decode cX2_findDoors 18 = .ok (.iconst 0, 1) := by decide +kernel
theorem dX2_findDoors_19 : decode cX2_findDoors 19 = .ok (.iconst 0, 1) := by decide +kernel
theorem dX2_findDoors_20 : decode cX2_findDoors 20 = .ok (.iconst 0, 1) := by decide +kernel
theorem dX2_findDoors_21 : decode cX2_findDoors 21 = .ok (.invokevirtual 56, 3) := by decide +kernel
theorem dX2_findDoors_24 : decode cX2_findDoors 24 = .ok (.return_, 1) := by decide +kernel
theorem dX2_goOnDoors_0 : decode cX2_goOnDoors 0 = .ok (.iload_n 1, 1) := by decide +kernel
theorem dX2_goOnDoors_1 : decode cX2_goOnDoors 1 = .ok (.aload_n 0, 1) := by decide +kernel
theorem dX2_goOnDoors_2 : decode cX2_goOnDoors 2 = .ok (.getfield 9, 3) := by decide +kernel
theorem dX2_goOnDoors_5 : decode cX2_goOnDoors 5 = .ok (.getfield 60, 3) := by decide +kernel
theorem dX2_goOnDoors_8 : decode cX2_goOnDoors 8 = .ok (.if_icmp .lt 46, 3) := by decide +kernel
theorem dX2_goOnDoors_11 : decode cX2_goOnDoors 11 = .ok (.iload_n 3, 1) := by decide +kernel
theorem dX2_goOnDoors_12 : decode cX2_goOnDoors 12 = .ok (.aload_n 0, 1) := by decide +kernel
theorem dX2_goOnDoors_13 : decode cX2_goOnDoors 13 = .ok (.getfield 53, 3) := by decide +kernel
theorem dX2_goOnDoors_16 : decode cX2_goOnDoors 16 = .ok (.if_icmp .gt 20, 3) := by decide +kernel
theorem dX2_goOnDoors_19 : decode cX2_goOnDoors 19 = .ok (.iload_n 3, 1) := by decide +kernel
theorem dX2_goOnDoors_20 : decode cX2_goOnDoors 20 = .ok (.aload_n 0, 1) := by decide +kernel
theorem dX2_goOnDoors_21 : decode cX2_goOnDoors 21 = .ok (.getfield 53, 3) := by decide +kernel
theorem dX2_goOnDoors_24 : decode cX2_goOnDoors 24 = .ok (.if_icmp .ne 29, 3) := by decide +kernel
theorem dX2_goOnDoors_27 : decode cX2_goOnDoors 27 = .ok (.iload 4, 2) := by decide +kernel
theorem dX2_goOnDoors_29 : decode cX2_goOnDoors 29 = .ok (.aload_n 0, 1) := by decide +kernel
theorem dX2_goOnDoors_30 : decode cX2_goOnDoors 30 = .ok (.getfield 30, 3) := by decide +kernel
theorem dX2_goOnDoors_33 : decode cX2_goOnDoors 33 = .ok (.if_icmp .ge 20, 3) := by decide +kernel
theorem dX2_goOnDoors_36 : decode cX2_goOnDoors 36 = .ok (.aload_n 0, 1) := by decide +kernel
theorem dX2_goOnDoors_37 : decode cX2_goOnDoors 37 = .ok (.iload_n 3, 1) := by decide +kernel
theorem dX2_goOnDoors_38 : decode cX2_goOnDoors 38 = .ok (.putfield 53, 3) := by decide +kernel
theorem dX2_goOnDoors_41 : decode cX2_goOnDoors 41 = .ok (.aload_n 0, 1) := by decide +kernel
theorem dX2_goOnDoors_42 : decode cX2_goOnDoors 42 = .ok (.iload 4, 2) := by decide +kernel
theorem dX2_goOnDoors_44 : decode cX2_goOnDoors 44 = .ok (.putfield 30, 3) := by decide +kernel
theorem dX2_goOnDoors_47 : decode cX2_goOnDoors 47 = .ok (.aload_n 0, 1) := by decide +kernel
theorem dX2_goOnDoors_48 : decode cX2_goOnDoors 48 = .ok (.iload 5, 2) := by decide +kernel
theorem dX2_goOnDoors_50 : decode cX2_goOnDoors 50 = .ok (.putfield 33, 3) := by decide +kernel
theorem dX2_goOnDoors_53 : decode cX2_goOnDoors 53 = .ok (.return_, 1) := by decide +kernel
theorem dX2_goOnDoors_54 : decode cX2_goOnDoors 54 = .ok (.aload_n 0, 1) := by decide +kernel
theorem dX2_goOnDoors_55 : decode cX2_goOnDoors 55 = .ok (.getfield 15, 3) := by decide +kernel
theorem dX2_goOnDoors_58 : decode cX2_goOnDoors 58 = .ok (.getfield 63, 3) := by decide +kernel
theorem dX2_goOnDoors_61 : decode cX2_goOnDoors 61 = .ok (.iload_n 1, 1) := by decide +kernel
theorem dX2_goOnDoors_62 : decode cX2_goOnDoors 62 = .ok (.iaload, 1) := by decide +kernel
theorem dX2_goOnDoors_63 : decode cX2_goOnDoors 63 = .ok (.istore 6, 2) := by decide +kernel
theorem dX2_goOnDoors_65 : decode cX2_goOnDoors 65 = .ok (.iconst 0, 1) := by decide +kernel
theorem dX2_goOnDoors_66 : decode cX2_goOnDoors 66 = .ok (.istore 7, 2) := by decide +kernel
theorem dX2_goOnDoors_68 : decode cX2_goOnDoors 68 = .ok (.iload 7, 2) := by decide +kernel
theorem dX2_goOnDoors_70 : decode cX2_goOnDoors 70 = .ok (.aload_n 0, 1) := by decide +kernel
theorem dX2_goOnDoors_71 : decode cX2_goOnDoors 71 = .ok (.getfield 9, 3) := by decide +kernel
theorem dX2_goOnDoors_74 : decode cX2_goOnDoors 74 = .ok (.getfield 44, 3) := by decide +kernel
theorem dX2_goOnDoors_77 : decode cX2_goOnDoors 77 = .ok (.if_icmp .ge 74, 3) := by decide +kernel
theorem dX2_goOnDoors_80 : decode cX2_goOnDoors 80 = .ok (.iload_n 2, 1) := by decide +kernel
theorem dX2_goOnDoors_81 : decode cX2_goOnDoors 81 = .ok (.iload 7, 2) := by decide +kernel
theorem dX2_goOnDoors_83 : decode cX2_goOnDoors 83 = .ok (.ishr, 1) := by decide +kernel
theorem dX2_goOnDoors_84 : decode cX2_goOnDoors 84 = .ok (.iconst 1, 1) := by decide +kernel
theorem dX2_goOnDoors_85 : decode cX2_goOnDoors 85 = .ok (.iand, 1) := by decide +kernel
theorem dX2_goOnDoors_86 : decode cX2_goOnDoors 86 = .ok (.ifCond .eq 59, 3) := by decide +kernel
theorem dX2_goOnDoors_89 : decode cX2_goOnDoors 89 = .ok (.aload_n 0, 1) := by decide +kernel
theorem dX2_goOnDoors_90 : decode cX2_goOnDoors 90 = .ok (.getfield 19, 3) := by decide +kernel
theorem dX2_goOnDoors_93 : decode cX2_goOnDoors 93 = .ok (.iload 6, 2) := by decide +kernel
theorem dX2_goOnDoors_95 : decode cX2_goOnDoors 95 = .ok (.iload 7, 2) := by decide +kernel
theorem dX2_goOnDoors_97 : decode cX2_goOnDoors 97 = .ok (.invokevirtual 49, 3) := by decide +kernel
theorem dX2_goOnDoors_100 : decode cX2_goOnDoors 100 = .ok (.ifCond .eq 45, 3) := by decide +kernel
theorem dX2_goOnDoors_103 : decode cX2_goOnDoors 103 = .ok (.aload_n 0, 1) := by decide +kernel
theorem dX2_goOnDoors_104 : decode cX2_goOnDoors 104 = .ok (.iload_n 1, 1) := by decide +kernel
theorem dX2_goOnDoors_105 : decode cX2_goOnDoors 105 = .ok (.iconst 1, 1) := by decide +kernel
theorem dX2_goOnDoors_106 : decode cX2_goOnDoors 106 = .ok (.iadd, 1) := by decide +kernel
theorem dX2_goOnDoors_107 : decode cX2_goOnDoors 107 = .ok (.iload_n 2, 1) := by decide +kernel
theorem dX2_goOnDoors_108 : decode cX2_goOnDoors 108 = .ok (.iconst 1, 1) := by decide +kernel
theorem dX2_goOnDoors_109 : decode cX2_goOnDoors 109 = .ok (.iload 7, 2) := by decide +kernel
theorem dX2_goOnDoors_111 : decode cX2_goOnDoors 111 = .ok (.ishl, 1) := by decide +kernel
theorem dX2_goOnDoors_112 : decode cX2_goOnDoors 112 = .ok (.iconst (-1), 1) := by decide +kernel
theorem dX2_goOnDoors_113 : decode cX2_goOnDoors 113 = .ok (.ixor, 1) := by decide +kernel
theorem dX2_goOnDoors_114 : decode cX2_goOnDoors 114 = .ok (.iand, 1) := by decide +kernel
theorem dX2_goOnDoors_115 : decode cX2_goOnDoors 115 = .ok (.iload_n 3, 1) := by decide +kernel
theorem dX2_goOnDoors_116 : decode cX2_goOnDoors 116 = .ok (.iconst 1, 1) := by decide +kernel
theorem dX2_goOnDoors_117 : decode cX2_goOnDoors 117 = .ok (.iadd, 1) := by decide +kernel
theorem dX2_goOnDoors_118 : decode cX2_goOnDoors 118 = .ok (.iload 4, 2) := by decide +kernel
theorem dX2_goOnDoors_120 : decode cX2_goOnDoors 120 = .ok (.aload_n 0, 1) := by decide +kernel
theorem dX2_goOnDoors_121 : decode cX2_goOnDoors 121 = .ok (.getfield 19, 3) := by decide +kernel
theorem dX2_goOnDoors_124 : decode cX2_goOnDoors 124 = .ok (.getfield 40, 3) := by decide +kernel
theorem dX2_goOnDoors_127 : decode cX2_goOnDoors 127 = .ok (.iload 6, 2) := by decide +kernel
theorem dX2_goOnDoors_129 : decode cX2_goOnDoors 129 = .ok (.aaload, 1) := by decide +kernel
theorem dX2_goOnDoors_130 : decode cX2_goOnDoors 130 = .ok (.iload 7, 2) := by decide +kernel
theorem dX2_goOnDoors_132 : decode cX2_goOnDoors 132 = .ok (.iaload, 1) := by decide +kernel
theorem dX2_goOnDoors_133 : decode cX2_goOnDoors 133 = .ok (.iadd, 1) := by decide +kernel
theorem dX2_goOnDoors_134 : decode cX2_goOnDoors 134 = .ok (.iload 5, 2) := by decide +kernel
theorem dX2_goOnDoors_136 : decode cX2_goOnDoors 136 = .ok (.bipush 10, 2) := by decide +kernel
theorem dX2_goOnDoors_138 : decode cX2_goOnDoors 138 = .ok (.imul, 1) := by decide +kernel
theorem dX2_goOnDoors_139 : decode cX2_goOnDoors 139 = .ok (.iload 7, 2) := by decide +kernel
theorem dX2_goOnDoors_141 : decode cX2_goOnDoors 141 = .ok (.iadd, 1) := by decide +kernel
theorem dX2_goOnDoors_142 : decode cX2_goOnDoors 142 = .ok (.invokevirtual 56, 3) := by decide +kernel
theorem dX2_goOnDoors_145 : decode cX2_goOnDoors 145 = .ok (.iinc 7 1, 3) := by decide +kernel
theorem dX2_goOnDoors_148 : decode cX2_goOnDoors 148 = .ok (.goto (-80), 3) := by decide +kernel
theorem dX2_goOnDoors_151 : decode cX2_goOnDoors 151 = .ok (.aload_n 0, 1) := by decide +kernel
theorem dX2_goOnDoors_152 : decode cX2_goOnDoors 152 = .ok (.iload_n 1, 1) := by decide +kernel
theorem dX2_goOnDoors_153 : decode cX2_goOnDoors 153 = .ok (.iconst 1, 1) := by decide +kernel
theorem dX2_goOnDoors_154 : decode cX2_goOnDoors 154 = .ok (.iadd, 1) := by decide +kernel
theorem dX2_goOnDoors_155 : decode cX2_goOnDoors 155 = .ok (.iload_n 2, 1) := by decide +kernel
theorem dX2_goOnDoors_156 : decode cX2_goOnDoors 156 = .ok (.iload_n 3, 1) := by decide +kernel
theorem dX2_goOnDoors_157 : decode cX2_goOnDoors 157 = .ok (.iload 4, 2) := by decide +kernel
theorem dX2_goOnDoors_159 : decode cX2_goOnDoors 159 = .ok (.iload 5, 2) := by decide +kernel
theorem dX2_goOnDoors_161 : decode cX2_goOnDoors 161 = .ok (.bipush 10, 2) := by decide +kernel
theorem dX2_goOnDoors_163 : decode cX2_goOnDoors 163 = .ok (.imul, 1) := by decide +kernel
theorem dX2_goOnDoors_164 : decode cX2_goOnDoors 164 = .ok (.bipush 9, 2) := by decide +kernel
theorem dX2_goOnDoors_166 : decode cX2_goOnDoors 166 = .ok (.iadd, 1) := by decide +kernel
theorem dX2_goOnDoors_167 : decode cX2_goOnDoors 167 = .ok (.invokevirtual 56, 3) := by decide +kernel
theorem dX2_goOnDoors_170 : decode cX2_goOnDoors 170 = .ok (.return_, 1) := by decide +kernel
theorem dX2_gain_0 : decode cX2_gain 0 = .ok (.aload_n 0, 1) := by decide +kernel
theorem dX2_gain_1 : decode cX2_gain 1 = .ok (.getfield 15, 3) := by decide +kernel
theorem dX2_gain_4 : decode cX2_gain 4 = .ok (.getfield 63, 3) := by decide +kernel
theorem dX2_gain_7 : decode cX2_gain 7 = .ok (.iload_n 1, 1) := by decide +kernel
theorem dX2_gain_8 : decode cX2_gain 8 = .ok (.iaload, 1) := by decide +kernel
theorem dX2_gain_9 : decode cX2_gain 9 = .ok (.istore 4, 2) := by decide +kernel
theorem dX2_gain_11 : decode cX2_gain 11 = .ok (.aload_n 0, 1) := by decide +kernel
theorem dX2_gain_12 : decode cX2_gain 12 = .ok (.getfield 9, 3) := by decide +kernel
theorem dX2_gain_15 : decode cX2_gain 15 = .ok (.iload_n 2, 1) := by decide +kernel
theorem dX2_gain_16 : decode cX2_gain 16 = .ok (.invokevirtual 69, 3) := by decide +kernel
theorem dX2_gain_19 : decode cX2_gain 19 = .ok (.ifCond .eq 16, 3) := by decide +kernel
theorem dX2_gain_22 : decode cX2_gain 22 = .ok (.aload_n 0, 1) := by decide +kernel
theorem dX2_gain_23 : decode cX2_gain 23 = .ok (.getfield 19, 3) := by decide +kernel
theorem dX2_gain_26 : decode cX2_gain 26 = .ok (.iload 4, 2) := by decide +kernel
theorem dX2_gain_28 : decode cX2_gain 28 = .ok (.iload_n 2, 1) := by decide +kernel
theorem dX2_gain_29 : decode cX2_gain 29 = .ok (.invokevirtual 49, 3) := by decide +kernel
theorem dX2_gain_32 : decode cX2_gain 32 = .ok (.ifCond .ne 6, 3) := by decide +kernel
theorem dX2_gain_35 : decode cX2_gain 35 = .ok (.bipush (-9), 2) := by decide +kernel
theorem dX2_gain_37 : decode cX2_gain 37 = .ok (.ireturn, 1) := by decide +kernel
theorem dX2_gain_38 : decode cX2_gain 38 = .ok (.iconst 3, 1) := by decide +kernel
theorem dX2_gain_39 : decode cX2_gain 39 = .ok (.aload_n 0, 1) := by decide +kernel
theorem dX2_gain_40 : decode cX2_gain 40 = .ok (.getfield 9, 3) := by decide +kernel
theorem dX2_gain_43 : decode cX2_gain 43 = .ok (.getfield 73, 3) := by decide +kernel
theorem dX2_gain_46 : decode cX2_gain 46 = .ok (.iload_n 2, 1) := by decide +kernel
theorem dX2_gain_47 : decode cX2_gain 47 = .ok (.iaload, 1) := by decide +kernel
theorem dX2_gain_48 : decode cX2_gain 48 = .ok (.imul, 1) := by decide +kernel
theorem dX2_gain_49 : decode cX2_gain 49 = .ok (.aload_n 0, 1) := by decide +kernel
theorem dX2_gain_50 : decode cX2_gain 50 = .ok (.getfield 19, 3) := by decide +kernel
theorem dX2_gain_53 : decode cX2_gain 53 = .ok (.getfield 40, 3) := by decide +kernel
theorem dX2_gain_56 : decode cX2_gain 56 = .ok (.iload 4, 2) := by decide +kernel
theorem dX2_gain_58 : decode cX2_gain 58 = .ok (.aaload, 1) := by decide +kernel
theorem dX2_gain_59 : decode cX2_gain 59 = .ok (.iload_n 2, 1) := by decide +kernel
theorem dX2_gain_60 : decode cX2_gain 60 = .ok (.iaload, 1) := by decide +kernel
theorem dX2_gain_61 : decode cX2_gain 61 = .ok (.isub, 1) := by decide +kernel
theorem dX2_gain_62 : decode cX2_gain 62 = .ok (.istore 5, 2) := by decide +kernel
theorem dX2_gain_64 : decode cX2_gain 64 = .ok (.iload_n 3, 1) := by decide +kernel
theorem dX2_gain_65 : decode cX2_gain 65 = .ok (.ifCond .eq 10, 3) := by decide +kernel
theorem dX2_gain_68 : decode cX2_gain 68 = .ok (.iload 5, 2) := by decide +kernel
theorem dX2_gain_70 : decode cX2_gain 70 = .ok (.iconst 2, 1) := by decide +kernel
theorem dX2_gain_71 : decode cX2_gain 71 = .ok (.idiv, 1) := by decide +kernel
theorem dX2_gain_72 : decode cX2_gain 72 = .ok (.goto 5, 3) := by decide +kernel
theorem dX2_gain_75 : decode cX2_gain 75 = .ok (.iload 5, 2) := by decide +kernel
theorem dX2_gain_77 : decode cX2_gain 77 = .ok (.ireturn, 1) := by decide +kernel
theorem dX2_howManyRests_0 : decode cX2_howManyRests 0 = .ok (.iconst 0, 1) := by decide +kernel
theorem dX2_howManyRests_1 : decode cX2_howManyRests 1 = .ok (.istore_n 3, 1) := by decide +kernel
theorem dX2_howManyRests_2 : decode cX2_howManyRests 2 = .ok (.iconst 0, 1) := by decide +kernel
theorem dX2_howManyRests_3 : decode cX2_howManyRests 3 = .ok (.istore 4, 2) := by decide +kernel
theorem dX2_howManyRests_5 : decode cX2_howManyRests 5 = .ok (.iload 4, 2) := by decide +kernel
theorem dX2_howManyRests_7 : decode cX2_howManyRests 7 = .ok (.aload_n 0, 1) := by decide +kernel
theorem dX2_howManyRests_8 : decode cX2_howManyRests 8 = .ok (.getfield 9, 3) := by decide +kernel
theorem dX2_howManyRests_11 : decode cX2_howManyRests 11 = .ok (.getfield 44, 3) := by decide +kernel
theorem dX2_howManyRests_14 : decode cX2_howManyRests 14 = .ok (.if_icmp .ge 51, 3) := by decide +kernel
theorem dX2_howManyRests_17 : decode cX2_howManyRests 17 = .ok (.iconst 0, 1) := by decide +kernel
theorem dX2_howManyRests_18 : decode cX2_howManyRests 18 = .ok (.istore 5, 2) := by decide +kernel
theorem dX2_howManyRests_20 : decode cX2_howManyRests 20 = .ok (.iload 5, 2) := by decide +kernel
theorem dX2_howManyRests_22 : decode cX2_howManyRests 22 = .ok (.aload_n 0, 1) := by decide +kernel
theorem dX2_howManyRests_23 : decode cX2_howManyRests 23 = .ok (.getfield 9, 3) := by decide +kernel
theorem dX2_howManyRests_26 : decode cX2_howManyRests 26 = .ok (.getfield 44, 3) := by decide +kernel
theorem dX2_howManyRests_29 : decode cX2_howManyRests 29 = .ok (.if_icmp .ge 30, 3) := by decide +kernel
theorem dX2_howManyRests_32 : decode cX2_howManyRests 32 = .ok (.iload_n 3, 1) := by decide +kernel
theorem dX2_howManyRests_33 : decode cX2_howManyRests 33 = .ok (.aload_n 0, 1) := by decide +kernel
theorem dX2_howManyRests_34 : decode cX2_howManyRests 34 = .ok (.iload_n 1, 1) := by decide +kernel
theorem dX2_howManyRests_35 : decode cX2_howManyRests 35 = .ok (.iload_n 2, 1) := by decide +kernel
theorem dX2_howManyRests_36 : decode cX2_howManyRests 36 = .ok (.iload 4, 2) := by decide +kernel
theorem dX2_howManyRests_38 : decode cX2_howManyRests 38 = .ok (.iload 5, 2) := by decide +kernel
theorem dX2_howManyRests_40 : decode cX2_howManyRests 40 = .ok (.invokevirtual 76, 3) := by decide +kernel
theorem dX2_howManyRests_43 : decode cX2_howManyRests 43 = .ok (.ifCond .eq 7, 3) := by decide +kernel
theorem dX2_howManyRests_46 : decode cX2_howManyRests 46 = .ok (.iconst 1, 1) := by decide +kernel
theorem dX2_howManyRests_47 : decode cX2_howManyRests 47 = .ok (.goto 4, 3) := by decide +kernel
theorem dX2_howManyRests_50 : decode cX2_howManyRests 50 = .ok (.iconst 0, 1) := by decide +kernel
theorem dX2_howManyRests_51 : decode cX2_howManyRests 51 = .ok (.iadd, 1) := by decide +kernel
theorem dX2_howManyRests_52 : decode cX2_howManyRests 52 = .ok (.istore_n 3, 1) := by decide +kernel
theorem dX2_howManyRests_53 : decode cX2_howManyRests 53 = .ok (.iinc 5 1, 3) := by decide +kernel
theorem dX2_howManyRests_56 : decode cX2_howManyRests 56 = .ok (.goto (-36), 3) := by decide +kernel
theorem dX2_howManyRests_59 : decode cX2_howManyRests 59 = .ok (.iinc 4 1, 3) := by decide +kernel
theorem dX2_howManyRests_62 : decode cX2_howManyRests 62 = .ok (.goto (-57), 3) := by decide +kernel
theorem dX2_howManyRests_65 : decode cX2_howManyRests 65 = .ok (.iload_n 3, 1) := by decide +kernel
theorem dX2_howManyRests_66 : decode cX2_howManyRests 66 = .ok (.ireturn, 1) := by decide +kernel
theorem dX2_restAt_0 : decode cX2_restAt 0 = .ok (.iload_n 3, 1) := by decide +kernel
theorem dX2_restAt_1 : decode cX2_restAt 1 = .ok (.istore 4, 2) := by decide +kernel
theorem dX2_restAt_3 : decode cX2_restAt 3 = .ok (.iconst 0, 1) := by decide +kernel
theorem dX2_restAt_4 : decode cX2_restAt 4 = .ok (.istore 5, 2) := by decide +kernel
theorem dX2_restAt_6 : decode cX2_restAt 6 = .ok (.iload 5, 2) := by decide +kernel
theorem dX2_restAt_8 : decode cX2_restAt 8 = .ok (.aload_n 0, 1) := by decide +kernel
theorem dX2_restAt_9 : decode cX2_restAt 9 = .ok (.getfield 9, 3) := by decide +kernel
theorem dX2_restAt_12 : decode cX2_restAt 12 = .ok (.getfield 44, 3) := by decide +kernel
theorem dX2_restAt_15 : decode cX2_restAt 15 = .ok (.if_icmp .ge 60, 3) := by decide +kernel
theorem dX2_restAt_18 : decode cX2_restAt 18 = .ok (.iconst 0, 1) := by decide +kernel
theorem dX2_restAt_19 : decode cX2_restAt 19 = .ok (.istore 6, 2) := by decide +kernel
theorem dX2_restAt_21 : decode cX2_restAt 21 = .ok (.iload 6, 2) := by decide +kernel
theorem dX2_restAt_23 : decode cX2_restAt 23 = .ok (.aload_n 0, 1) := by decide +kernel
theorem dX2_restAt_24 : decode cX2_restAt 24 = .ok (.getfield 9, 3) := by decide +kernel
theorem dX2_restAt_27 : decode cX2_restAt 27 = .ok (.getfield 44, 3) := by decide +kernel
theorem dX2_restAt_30 : decode cX2_restAt 30 = .ok (.if_icmp .ge 39, 3) := by decide +kernel
theorem dX2_restAt_33 : decode cX2_restAt 33 = .ok (.aload_n 0, 1) := by decide +kernel
theorem dX2_restAt_34 : decode cX2_restAt 34 = .ok (.iload_n 1, 1) := by decide +kernel
theorem dX2_restAt_35 : decode cX2_restAt 35 = .ok (.iload_n 2, 1) := by decide +kernel
theorem dX2_restAt_36 : decode cX2_restAt 36 = .ok (.iload 5, 2) := by decide +kernel
theorem dX2_restAt_38 : decode cX2_restAt 38 = .ok (.iload 6, 2) := by decide +kernel
theorem dX2_restAt_40 : decode cX2_restAt 40 = .ok (.invokevirtual 76, 3) := by decide +kernel
theorem dX2_restAt_43 : decode cX2_restAt 43 = .ok (.ifCond .eq 20, 3) := by decide +kernel
theorem dX2_restAt_46 : decode cX2_restAt 46 = .ok (.iload 4, 2) := by decide +kernel
theorem dX2_restAt_48 : decode cX2_restAt 48 = .ok (.ifCond .ne 12, 3) := by decide +kernel
theorem dX2_restAt_51 : decode cX2_restAt 51 = .ok (.bipush 10, 2) := by decide +kernel
theorem dX2_restAt_53 : decode cX2_restAt 53 = .ok (.iload 5, 2) := by decide +kernel
theorem dX2_restAt_55 : decode cX2_restAt 55 = .ok (.imul, 1) := by decide +kernel
theorem dX2_restAt_56 : decode cX2_restAt 56 = .ok (.iload 6, 2) := by decide +kernel
theorem dX2_restAt_58 : decode cX2_restAt 58 = .ok (.iadd, 1) := by decide +kernel
theorem dX2_restAt_59 : decode cX2_restAt 59 = .ok (.ireturn, 1) := by decide +kernel
theorem dX2_restAt_60 : decode cX2_restAt 60 = .ok (.iinc 4 (-1), 3) := by decide +kernel
theorem dX2_restAt_63 : decode cX2_restAt 63 = .ok (.iinc 6 1, 3) := by decide +kernel
theorem dX2_restAt_66 : decode cX2_restAt 66 = .ok (.goto (-45), 3) := by decide +kernel
theorem dX2_restAt_69 : decode cX2_restAt 69 = .ok (.iinc 5 1, 3) := by decide +kernel
theorem dX2_restAt_72 : decode cX2_restAt 72 = .ok (.goto (-66), 3) := by decide +kernel
theorem dX2_restAt_75 : decode cX2_restAt 75 = .ok (.iconst (-1), 1) := by decide +kernel
theorem dX2_restAt_76 : decode cX2_restAt 76 = .ok (.ireturn, 1) := by decide +kernel
theorem dX2_isRest_0 : decode cX2_isRest 0 = .ok (.aload_n 0, 1) := by decide +kernel
theorem dX2_isRest_1 : decode cX2_isRest 1 = .ok (.iload_n 1, 1) := by decide +kernel
theorem dX2_isRest_2 : decode cX2_isRest 2 = .ok (.iload_n 3, 1) := by decide +kernel
theorem dX2_isRest_3 : decode cX2_isRest 3 = .ok (.iload 4, 2) := by decide +kernel
theorem dX2_isRest_5 : decode cX2_isRest 5 = .ok (.invokevirtual 80, 3) := by decide +kernel
theorem dX2_isRest_8 : decode cX2_isRest 8 = .ok (.ifCond .eq 18, 3) := by decide +kernel
theorem dX2_isRest_11 : decode cX2_isRest 11 = .ok (.aload_n 0, 1) := by decide +kernel
theorem dX2_isRest_12 : decode cX2_isRest 12 = .ok (.iload_n 2, 1) := by decide +kernel
theorem dX2_isRest_13 : decode cX2_isRest 13 = .ok (.iload 4, 2) := by decide +kernel
theorem dX2_isRest_15 : decode cX2_isRest 15 = .ok (.iload_n 3, 1) := by decide +kernel
theorem dX2_isRest_16 : decode cX2_isRest 16 = .ok (.invokevirtual 80, 3) := by decide +kernel
theorem dX2_isRest_19 : decode cX2_isRest 19 = .ok (.ifCond .eq 7, 3) := by decide +kernel
theorem dX2_isRest_22 : decode cX2_isRest 22 = .ok (.iconst 1, 1) := by decide +kernel
theorem dX2_isRest_23 : decode cX2_isRest 23 = .ok (.goto 4, 3) := by decide +kernel
theorem dX2_isRest_26 : decode cX2_isRest 26 = .ok (.iconst 0, 1) := by decide +kernel
theorem dX2_isRest_27 : decode cX2_isRest 27 = .ok (.ireturn, 1) := by decide +kernel
theorem dX2_isBestAgainst_0 : decode cX2_isBestAgainst 0 = .ok (.aload_n 0, 1) := by decide +kernel
theorem dX2_isBestAgainst_1 : decode cX2_isBestAgainst 1 = .ok (.iload_n 1, 1) := by decide +kernel
theorem dX2_isBestAgainst_2 : decode cX2_isBestAgainst 2 = .ok (.iload_n 2, 1) := by decide +kernel
theorem dX2_isBestAgainst_3 : decode cX2_isBestAgainst 3 = .ok (.iload_n 2, 1) := by decide +kernel
theorem dX2_isBestAgainst_4 : decode cX2_isBestAgainst 4 = .ok (.iload_n 3, 1) := by decide +kernel
theorem dX2_isBestAgainst_5 : decode cX2_isBestAgainst 5 = .ok (.if_icmp .ne 7, 3) := by decide +kernel
theorem dX2_isBestAgainst_8 : decode cX2_isBestAgainst 8 = .ok (.iconst 1, 1) := by decide +kernel
theorem dX2_isBestAgainst_9 : decode cX2_isBestAgainst 9 = .ok (.goto 4, 3) := by decide +kernel
theorem dX2_isBestAgainst_12 : decode cX2_isBestAgainst 12 = .ok (.iconst 0, 1) := by decide +kernel
theorem dX2_isBestAgainst_13 : decode cX2_isBestAgainst 13 = .ok (.invokevirtual 84, 3) := by decide +kernel
theorem dX2_isBestAgainst_16 : decode cX2_isBestAgainst 16 = .ok (.istore 4, 2) := by decide +kernel
theorem dX2_isBestAgainst_18 : decode cX2_isBestAgainst 18 = .ok (.iconst 0, 1) := by decide +kernel
theorem dX2_isBestAgainst_19 : decode cX2_isBestAgainst 19 = .ok (.istore 5, 2) := by decide +kernel
theorem dX2_isBestAgainst_21 : decode cX2_isBestAgainst 21 = .ok (.iload 5, 2) := by decide +kernel
theorem dX2_isBestAgainst_23 : decode cX2_isBestAgainst 23 = .ok (.aload_n 0, 1) := by decide +kernel
theorem dX2_isBestAgainst_24 : decode cX2_isBestAgainst 24 = .ok (.getfield 9, 3) := by decide +kernel
theorem dX2_isBestAgainst_27 : decode cX2_isBestAgainst 27 = .ok (.getfield 44, 3) := by decide +kernel
theorem dX2_isBestAgainst_30 : decode cX2_isBestAgainst 30 = .ok (.if_icmp .ge 34, 3) := by decide +kernel
theorem dX2_isBestAgainst_33 : decode cX2_isBestAgainst 33 = .ok (.aload_n 0, 1) := by decide +kernel
theorem dX2_isBestAgainst_34 : decode cX2_isBestAgainst 34 = .ok (.iload_n 1, 1) := by decide +kernel
theorem dX2_isBestAgainst_35 : decode cX2_isBestAgainst 35 = .ok (.iload 5, 2) := by decide +kernel
theorem dX2_isBestAgainst_37 : decode cX2_isBestAgainst 37 = .ok (.iload 5, 2) := by decide +kernel
theorem dX2_isBestAgainst_39 : decode cX2_isBestAgainst 39 = .ok (.iload_n 3, 1) := by decide +kernel
theorem dX2_isBestAgainst_40 : decode cX2_isBestAgainst 40 = .ok (.if_icmp .ne 7, 3) := by decide +kernel
theorem dX2_isBestAgainst_43 : decode cX2_isBestAgainst 43 = .ok (.iconst 1, 1) := by decide +kernel
theorem dX2_isBestAgainst_44 : decode cX2_isBestAgainst 44 = .ok (.goto 4, 3) := by decide +kernel
theorem dX2_isBestAgainst_47 : decode cX2_isBestAgainst 47 = .ok (.iconst 0, 1) := by decide +kernel
theorem dX2_isBestAgainst_48 : decode cX2_isBestAgainst 48 = .ok (.invokevirtual 84, 3) := by decide +kernel
theorem dX2_isBestAgainst_51 : decode cX2_isBestAgainst 51 = .ok (.iload 4, 2) := by decide +kernel
theorem dX2_isBestAgainst_53 : decode cX2_isBestAgainst 53 = .ok (.if_icmp .le 5, 3) := by decide +kernel
theorem dX2_isBestAgainst_56 : decode cX2_isBestAgainst 56 = .ok (.iconst 0, 1) := by decide +kernel
theorem dX2_isBestAgainst_57 : decode cX2_isBestAgainst 57 = .ok (.ireturn, 1) := by decide +kernel
theorem dX2_isBestAgainst_58 : decode cX2_isBestAgainst 58 = .ok (.iinc 5 1, 3) := by decide +kernel
theorem dX2_isBestAgainst_61 : decode cX2_isBestAgainst 61 = .ok (.goto (-40), 3) := by decide +kernel
theorem dX2_isBestAgainst_64 : decode cX2_isBestAgainst 64 = .ok (.iconst 1, 1) := by decide +kernel
theorem dX2_isBestAgainst_65 : decode cX2_isBestAgainst 65 = .ok (.ireturn, 1) := by decide +kernel
theorem dX11_init_0 : decode cX11_init 0 = .ok (.aload_n 0, 1) := by decide +kernel
theorem dX11_init_1 : decode cX11_init 1 = .ok (.invokespecial 1, 3) := by decide +kernel
theorem dX11_init_4 : decode cX11_init 4 = .ok (.aload_n 0, 1) := by decide +kernel
theorem dX11_init_5 : decode cX11_init 5 = .ok (.new 7, 3) := by decide +kernel
theorem dX11_init_8 : decode cX11_init 8 = .ok (.dup, 1) := by decide +kernel
theorem dX11_init_9 : decode cX11_init 9 = .ok (.invokespecial 9, 3) := by decide +kernel
theorem dX11_init_12 : decode cX11_init 12 = .ok (.putfield 10, 3) := by decide +kernel
theorem dX11_init_15 : decode cX11_init 15 = .ok (.aload_n 0, 1) := by decide +kernel
theorem dX11_init_16 : decode cX11_init 16 = .ok (.new 16, 3) := by decide +kernel
theorem dX11_init_19 : decode cX11_init 19 = .ok (.dup, 1) := by decide +kernel
theorem dX11_init_20 : decode cX11_init 20 = .ok (.invokespecial 18, 3) := by decide +kernel
theorem dX11_init_23 : decode cX11_init 23 = .ok (.putfield 19, 3) := by decide +kernel
theorem dX11_init_26 : decode cX11_init 26 = .ok (.aload_n 0, 1) := by decide +kernel
theorem dX11_init_27 : decode cX11_init 27 = .ok (.new 16, 3) := by decide +kernel
theorem dX11_init_30 : decode cX11_init 30 = .ok (.dup, 1) := by decide +kernel
theorem dX11_init_31 : decode cX11_init 31 = .ok (.invokespecial 18, 3) := by decide +kernel
theorem dX11_init_34 : decode cX11_init 34 = .ok (.putfield 23, 3) := by decide +kernel
theorem dX11_init_37 : decode cX11_init 37 = .ok (.aload_n 0, 1) := by decide +kernel
theorem dX11_init_38 : decode cX11_init 38 = .ok (.new 26, 3) := by decide +kernel
theorem dX11_init_41 : decode cX11_init 41 = .ok (.dup, 1) := by decide +kernel
theorem dX11_init_42 : decode cX11_init 42 = .ok (.aload_n 0, 1) := by decide +kernel
theorem dX11_init_43 : decode cX11_init 43 = .ok (.getfield 10, 3) := by decide +kernel
theorem dX11_init_46 : decode cX11_init 46 = .ok (.invokespecial 28, 3) := by decide +kernel
theorem dX11_init_49 : decode cX11_init 49 = .ok (.putfield 31, 3) := by decide +kernel
theorem dX11_init_52 : decode cX11_init 52 = .ok (.aload_n 0, 1) := by decide +kernel
theorem dX11_init_53 : decode cX11_init 53 = .ok (.new 35, 3) := by decide +kernel
theorem dX11_init_56 : decode cX11_init 56 = .ok (.dup, 1) := by decide +kernel
theorem dX11_init_57 : decode cX11_init 57 = .ok (.invokespecial 37, 3) := by decide +kernel
theorem dX11_init_60 : decode cX11_init 60 = .ok (.putfield 38, 3) := by decide +kernel
theorem dX11_init_63 : decode cX11_init 63 = .ok (.aload_n 0, 1) := by decide +kernel
theorem dX11_init_64 : decode cX11_init 64 = .ok (.new 42, 3) := by decide +kernel
theorem dX11_init_67 : decode cX11_init 67 = .ok (.dup, 1) := by decide +kernel
theorem dX11_init_68 : decode cX11_init 68 = .ok (.invokespecial 44, 3) := by decide +kernel
theorem dX11_init_71 : decode cX11_init 71 = .ok (.putfield 45, 3) := by decide +kernel
theorem dX11_init_74 : decode cX11_init 74 = .ok (.aload_n 0, 1) := by decide +kernel
theorem dX11_init_75 : decode cX11_init 75 = .ok (.new 49, 3) := by decide +kernel
theorem dX11_init_78 : decode cX11_init 78 = .ok (.dup, 1) := by decide +kernel
theorem dX11_init_79 : decode cX11_init 79 = .ok (.invokespecial 51, 3) := by decide +kernel
theorem dX11_init_82 : decode cX11_init 82 = .ok (.putfield 52, 3) := by decide +kernel
theorem dX11_init_85 : decode cX11_init 85 = .ok (.aload_n 0, 1) := by decide +kernel
theorem dX11_init_86 : decode cX11_init 86 = .ok (.new 49, 3) := by decide +kernel
theorem dX11_init_89 : decode cX11_init 89 = .ok (.dup, 1) := by decide +kernel
theorem dX11_init_90 : decode cX11_init 90 = .ok (.invokespecial 51, 3) := by decide +kernel
theorem dX11_init_93 : decode cX11_init 93 = .ok (.putfield 56, 3) := by decide +kernel
theorem dX11_init_96 : decode cX11_init 96 = .ok (.aload_n 0, 1) := by decide +kernel
theorem dX11_init_97 : decode cX11_init 97 = .ok (.new 59, 3) := by decide +kernel
theorem dX11_init_100 : decode cX11_init 100 = .ok (.dup, 1) := by decide +kernel
theorem dX11_init_101 : decode cX11_init 101 = .ok (.aload_n 0, 1) := by decide +kernel
theorem dX11_init_102 : decode cX11_init 102 = .ok (.getfield 19, 3) := by decide +kernel
theorem dX11_init_105 : decode cX11_init 105 = .ok (.aload_n 0, 1) := by decide +kernel
theorem dX11_init_106 : decode cX11_init 106 = .ok (.getfield 38, 3) := by decide +kernel
theorem dX11_init_109 : decode cX11_init 109 = .ok (.aload_n 0, 1) := by decide +kernel
theorem dX11_init_110 : decode cX11_init 110 = .ok (.getfield 45, 3) := by decide +kernel
theorem dX11_init_113 : decode cX11_init 113 = .ok (.invokespecial 61, 3) := by decide +kernel
theorem dX11_init_116 : decode cX11_init 116 = .ok (.putfield 64, 3) := by decide +kernel
theorem dX11_init_119 : decode cX11_init 119 = .ok (.aload_n 0, 1) := by decide +kernel
theorem dX11_init_120 : decode cX11_init 120 = .ok (.new 68, 3) := by decide +kernel
theorem dX11_init_123 : decode cX11_init 123 = .ok (.dup, 1) := by decide +kernel
theorem dX11_init_124 : decode cX11_init 124 = .ok (.invokespecial 70, 3) := by decide +kernel
theorem dX11_init_127 : decode cX11_init 127 = .ok (.putfield 71, 3) := by decide +kernel
theorem dX11_init_130 : decode cX11_init 130 = .ok (.aload_n 0, 1) := by decide +kernel
theorem dX11_init_131 : decode cX11_init 131 = .ok (.new 75, 3) := by decide +kernel
theorem dX11_init_134 : decode cX11_init 134 = .ok (.dup, 1) := by decide +kernel
theorem dX11_init_135 : decode cX11_init 135 = .ok (.aload_n 0, 1) := by decide +kernel
theorem dX11_init_136 : decode cX11_init 136 = .ok (.getfield 19, 3) := by decide +kernel
theorem dX11_init_139 : decode cX11_init 139 = .ok (.aload_n 0, 1) := by decide +kernel
theorem dX11_init_140 : decode cX11_init 140 = .ok (.getfield 64, 3) := by decide +kernel
theorem dX11_init_143 : decode cX11_init 143 = .ok (.invokespecial 77, 3) := by decide +kernel
theorem dX11_init_146 : decode cX11_init 146 = .ok (.putfield 80, 3) := by decide +kernel
theorem dX11_init_149 : decode cX11_init 149 = .ok (.aload_n 0, 1) := by decide +kernel
theorem dX11_init_150 : decode cX11_init 150 = .ok (.new 84, 3) := by decide +kernel
theorem dX11_init_153 : decode cX11_init 153 = .ok (.dup, 1) := by decide +kernel
theorem dX11_init_154 : decode cX11_init 154 = .ok (.aload_n 0, 1) := by decide +kernel
theorem dX11_init_155 : decode cX11_init 155 = .ok (.getfield 19, 3) := by decide +kernel
theorem dX11_init_158 : decode cX11_init 158 = .ok (.aload_n 0, 1) := by decide +kernel
theorem dX11_init_159 : decode cX11_init 159 = .ok (.getfield 45, 3) := by decide +kernel
theorem dX11_init_162 : decode cX11_init 162 = .ok (.aload_n 0, 1) := by decide +kernel
theorem dX11_init_163 : decode cX11_init 163 = .ok (.getfield 64, 3) := by decide +kernel
theorem dX11_init_166 : decode cX11_init 166 = .ok (.aload_n 0, 1) := by decide +kernel
theorem dX11_init_167 : decode cX11_init 167 = .ok (.getfield 56, 3) := by decide +kernel
theorem dX11_init_170 : decode cX11_init 170 = .ok (.invokespecial 86, 3) := by decide +kernel
theorem dX11_init_173 : decode cX11_init 173 = .ok (.putfield 89, 3) := by decide +kernel
theorem dX11_init_176 : decode cX11_init 176 = .ok (.aload_n 0, 1) := by decide +kernel
theorem dX11_init_177 : decode cX11_init 177 = .ok (.new 93, 3) := by decide +kernel
theorem dX11_init_180 : decode cX11_init 180 = .ok (.dup, 1) := by decide +kernel
theorem dX11_init_181 : decode cX11_init 181 = .ok (.aload_n 0, 1) := by decide +kernel
theorem dX11_init_182 : decode cX11_init 182 = .ok (.getfield 19, 3) := by decide +kernel
theorem dX11_init_185 : decode cX11_init 185 = .ok (.aload_n 0, 1) := by decide +kernel
theorem dX11_init_186 : decode cX11_init 186 = .ok (.getfield 52, 3) := by decide +kernel
theorem dX11_init_189 : decode cX11_init 189 = .ok (.aload_n 0, 1) := by decide +kernel
theorem dX11_init_190 : decode cX11_init 190 = .ok (.getfield 80, 3) := by decide +kernel
theorem dX11_init_193 : decode cX11_init 193 = .ok (.invokespecial 95, 3) := by decide +kernel
theorem dX11_init_196 : decode cX11_init 196 = .ok (.putfield 98, 3) := by decide +kernel
theorem dX11_init_199 : decode cX11_init 199 = .ok (.aload_n 0, 1) := by decide +kernel
theorem dX11_init_200 : decode cX11_init 200 = .ok (.iconst 5, 1) := by decide +kernel
theorem dX11_init_201 : decode cX11_init 201 = .ok (.newarray .int, 2) := by decide +kernel
theorem dX11_init_203 : decode cX11_init 203 = .ok (.putfield 102, 3) := by decide +kernel
theorem dX11_init_206 : decode cX11_init 206 = .ok (.aload_n 0, 1) := by decide +kernel
theorem dX11_init_207 : decode cX11_init 207 = .ok (.iconst 2, 1) := by decide +kernel
theorem dX11_init_208 : decode cX11_init 208 = .ok (.putfield 106, 3) := by decide +kernel
theorem dX11_init_211 : decode cX11_init 211 = .ok (.return_, 1) := by decide +kernel
theorem dX11_feed_0 : decode cX11_feed 0 = .ok (.iload_n 1, 1) := by decide +kernel
theorem dX11_feed_1 : decode cX11_feed 1 = .ok (.invokestatic 110, 3) := by decide +kernel
theorem dX11_feed_4 : decode cX11_feed 4 = .ok (.iload_n 2, 1) := by decide +kernel
theorem dX11_feed_5 : decode cX11_feed 5 = .ok (.invokestatic 110, 3) := by decide +kernel
theorem dX11_feed_8 : decode cX11_feed 8 = .ok (.iadd, 1) := by decide +kernel
theorem dX11_feed_9 : decode cX11_feed 9 = .ok (.iload_n 3, 1) := by decide +kernel
theorem dX11_feed_10 : decode cX11_feed 10 = .ok (.invokestatic 110, 3) := by decide +kernel
theorem dX11_feed_13 : decode cX11_feed 13 = .ok (.iadd, 1) := by decide +kernel
theorem dX11_feed_14 : decode cX11_feed 14 = .ok (.iload 4, 2) := by decide +kernel
theorem dX11_feed_16 : decode cX11_feed 16 = .ok (.invokestatic 110, 3) := by decide +kernel
theorem dX11_feed_19 : decode cX11_feed 19 = .ok (.iadd, 1) := by decide +kernel
theorem dX11_feed_20 : decode cX11_feed 20 = .ok (.iload 5, 2) := by decide +kernel
theorem dX11_feed_22 : decode cX11_feed 22 = .ok (.invokestatic 110, 3) := by decide +kernel
theorem dX11_feed_25 : decode cX11_feed 25 = .ok (.iadd, 1) := by decide +kernel
theorem dX11_feed_26 : decode cX11_feed 26 = .ok (.istore 6, 2) := by decide +kernel
theorem dX11_feed_28 : decode cX11_feed 28 = .ok (.aload_n 0, 1) := by decide +kernel
theorem dX11_feed_29 : decode cX11_feed 29 = .ok (.getfield 10, 3) := by decide +kernel
theorem dX11_feed_32 : decode cX11_feed 32 = .ok (.getfield 114, 3) := by decide +kernel
theorem dX11_feed_35 : decode cX11_feed 35 = .ok (.iload 6, 2) := by decide +kernel
theorem dX11_feed_37 : decode cX11_feed 37 = .ok (.iadd, 1) := by decide +kernel
theorem dX11_feed_38 : decode cX11_feed 38 = .ok (.sipush 240, 3) := by decide +kernel
theorem dX11_feed_41 : decode cX11_feed 41 = .ok (.if_icmp .le 5, 3) := by decide +kernel
theorem dX11_feed_44 : decode cX11_feed 44 = .ok (.iconst (-1), 1) := by decide +kernel
theorem dX11_feed_45 : decode cX11_feed 45 = .ok (.ireturn, 1) := by decide +kernel
theorem dX11_feed_46 : decode cX11_feed 46 = .ok (.aload_n 0, 1) := by decide +kernel
theorem dX11_feed_47 : decode cX11_feed 47 = .ok (.getfield 10, 3) := by decide +kernel
theorem dX11_feed_50 : decode cX11_feed 50 = .ok (.iload_n 1, 1) := by decide +kernel
theorem dX11_feed_51 : decode cX11_feed 51 = .ok (.invokevirtual 117, 3) := by decide +kernel
theorem dX11_feed_54 : decode cX11_feed 54 = .ok (.aload_n 0, 1) := by decide +kernel
theorem dX11_feed_55 : decode cX11_feed 55 = .ok (.getfield 10, 3) := by decide +kernel
theorem dX11_feed_58 : decode cX11_feed 58 = .ok (.iload_n 2, 1) := by decide +kernel
theorem dX11_feed_59 : decode cX11_feed 59 = .ok (.invokevirtual 117, 3) := by decide +kernel
theorem dX11_feed_62 : decode cX11_feed 62 = .ok (.aload_n 0, 1) := by decide +kernel
theorem dX11_feed_63 : decode cX11_feed 63 = .ok (.getfield 10, 3) := by decide +kernel
theorem dX11_feed_66 : decode cX11_feed 66 = .ok (.iload_n 3, 1) := by decide +kernel
theorem dX11_feed_67 : decode cX11_feed 67 = .ok (.invokevirtual 117, 3) := by decide +kernel
theorem dX11_feed_70 : decode cX11_feed 70 = .ok (.aload_n 0, 1) := by decide +kernel
theorem dX11_feed_71 : decode cX11_feed 71 = .ok (.getfield 10, 3) := by decide +kernel
theorem dX11_feed_74 : decode cX11_feed 74 = .ok (.iload 4, 2) := by decide +kernel
theorem dX11_feed_76 : decode cX11_feed 76 = .ok (.invokevirtual 117, 3) := by decide +kernel
theorem dX11_feed_79 : decode cX11_feed 79 = .ok (.aload_n 0, 1) := by decide +kernel
theorem dX11_feed_80 : decode cX11_feed 80 = .ok (.getfield 10, 3) := by decide +kernel
theorem dX11_feed_83 : decode cX11_feed 83 = .ok (.iload 5, 2) := by decide +kernel
theorem dX11_feed_85 : decode cX11_feed 85 = .ok (.invokevirtual 117, 3) := by decide +kernel
theorem dX11_feed_88 : decode cX11_feed 88 = .ok (.aload_n 0, 1) := by decide +kernel
theorem dX11_feed_89 : decode cX11_feed 89 = .ok (.getfield 10, 3) := by decide +kernel
theorem dX11_feed_92 : decode cX11_feed 92 = .ok (.getfield 114, 3) := by decide +kernel
theorem dX11_feed_95 : decode cX11_feed 95 = .ok (.ireturn, 1) := by decide +kernel
theorem dX11_end_0 : decode cX11_end 0 = .ok (.iload_n 1, 1) := by decide +kernel
theorem dX11_end_1 : decode cX11_end 1 = .ok (.ifCond .lt 14, 3) := by decide +kernel
theorem dX11_end_4 : decode cX11_end 4 = .ok (.iload_n 1, 1) := by decide +kernel
theorem dX11_end_5 : decode cX11_end 5 = .ok (.aload_n 0, 1) := by decide +kernel
theorem dX11_end_6 : decode cX11_end 6 = .ok (.getfield 10, 3) := by decide +kernel
theorem dX11_end_9 : decode cX11_end 9 = .ok (.getfield 114, 3) := by decide +kernel
theorem dX11_end_12 : decode cX11_end 12 = .ok (.if_icmp .le 5, 3) := by decide +kernel
theorem dX11_end_15 : decode cX11_end 15 = .ok (.iconst 0, 1) := by decide +kernel
theorem dX11_end_16 : decode cX11_end 16 = .ok (.ireturn, 1) := by decide +kernel
theorem dX11_end_17 : decode cX11_end 17 = .ok (.aload_n 0, 1) := by decide +kernel
theorem dX11_end_18 : decode cX11_end 18 = .ok (.getfield 10, 3) := by decide +kernel
theorem dX11_end_21 : decode cX11_end 21 = .ok (.iload_n 1, 1) := by decide +kernel
theorem dX11_end_22 : decode cX11_end 22 = .ok (.putfield 114, 3) := by decide +kernel
theorem dX11_end_25 : decode cX11_end 25 = .ok (.iconst 1, 1) := by decide +kernel
theorem dX11_end_26 : decode cX11_end 26 = .ok (.ireturn, 1) := by decide +kernel
theorem dX11_fault_0 : decode cX11_fault 0 = .ok (.iload_n 1, 1) := by decide +kernel
theorem dX11_fault_1 : decode cX11_fault 1 = .ok (.ifCond .lt 8, 3) := by decide +kernel
theorem dX11_fault_4 : decode cX11_fault 4 = .ok (.iload_n 1, 1) := by decide +kernel
