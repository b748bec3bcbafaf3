theorem dX9_init_0 : decode cX9_init 0 = .ok (.aload_n 0, 1) := by decide +kernel
theorem dX9_init_1 : decode cX9_init 1 = .ok (.invokespecial 3, 3) := by decide +kernel
theorem dX9_init_4 : decode cX9_init 4 = .ok (.aload_n 0, 1) := by decide +kernel
theorem dX9_init_5 : decode cX9_init 5 = .ok (.sipush 240, 3) := by decide +kernel
theorem dX9_init_8 : decode cX9_init 8 = .ok (.newarray .int, 2) := by decide +kernel
theorem dX9_init_10 : decode cX9_init 10 = .ok (.putfield 9, 3) := by decide +kernel
theorem dX9_init_13 : decode cX9_init 13 = .ok (.return_, 1) := by decide +kernel
theorem dX9_bytesOf_0 : decode cX9_bytesOf 0 = .ok (.iconst 0, 1) := by decide +kernel
theorem dX9_bytesOf_1 : decode cX9_bytesOf 1 = .ok (.istore_n 1, 1) := by decide +kernel
theorem dX9_bytesOf_2 : decode cX9_bytesOf 2 = .ok (.bipush 24, 2) := by decide +kernel
theorem dX9_bytesOf_4 : decode cX9_bytesOf 4 = .ok (.istore_n 2, 1) := by decide +kernel
theorem dX9_bytesOf_5 : decode cX9_bytesOf 5 = .ok (.iload_n 2, 1) := by decide +kernel
theorem dX9_bytesOf_6 : decode cX9_bytesOf 6 = .ok (.ifCond .lt 22, 3) := by decide +kernel
theorem dX9_bytesOf_9 : decode cX9_bytesOf 9 = .ok (.iload_n 0, 1) := by decide +kernel
theorem dX9_bytesOf_10 : decode cX9_bytesOf 10 = .ok (.iload_n 2, 1) := by decide +kernel
theorem dX9_bytesOf_11 : decode cX9_bytesOf 11 = .ok (.iushr, 1) := by decide +kernel
theorem dX9_bytesOf_12 : decode cX9_bytesOf 12 = .ok (.sipush 255, 3) := by decide +kernel
theorem dX9_bytesOf_15 : decode cX9_bytesOf 15 = .ok (.iand, 1) := by decide +kernel
theorem dX9_bytesOf_16 : decode cX9_bytesOf 16 = .ok (.ifCond .eq 6, 3) := by decide +kernel
theorem dX9_bytesOf_19 : decode cX9_bytesOf 19 = .ok (.iinc 1 1, 3) := by decide +kernel
theorem dX9_bytesOf_22 : decode cX9_bytesOf 22 = .ok (.iinc 2 (-8), 3) := by decide +kernel
theorem dX9_bytesOf_25 : decode cX9_bytesOf 25 = .ok (.goto (-20), 3) := by decide +kernel
theorem dX9_bytesOf_28 : decode cX9_bytesOf 28 = .ok (.iload_n 1, 1) := by decide +kernel
theorem dX9_bytesOf_29 : decode cX9_bytesOf 29 = .ok (.ireturn, 1) := by decide +kernel
theorem dX9_append_0 : decode cX9_append 0 = .ok (.bipush 24, 2) := by decide +kernel
theorem dX9_append_2 : decode cX9_append 2 = .ok (.istore_n 2, 1) := by decide +kernel
theorem dX9_append_3 : decode cX9_append 3 = .ok (.iload_n 2, 1) := by decide +kernel
theorem dX9_append_4 : decode cX9_append 4 = .ok (.ifCond .lt 53, 3) := by decide +kernel
theorem dX9_append_7 : decode cX9_append 7 = .ok (.iload_n 1, 1) := by decide +kernel
theorem dX9_append_8 : decode cX9_append 8 = .ok (.iload_n 2, 1) := by decide +kernel
theorem dX9_append_9 : decode cX9_append 9 = .ok (.iushr, 1) := by decide +kernel
theorem dX9_append_10 : decode cX9_append 10 = .ok (.sipush 255, 3) := by decide +kernel
theorem dX9_append_13 : decode cX9_append 13 = .ok (.iand, 1) := by decide +kernel
theorem dX9_append_14 : decode cX9_append 14 = .ok (.istore_n 3, 1) := by decide +kernel
theorem dX9_append_15 : decode cX9_append 15 = .ok (.iload_n 3, 1) := by decide +kernel
theorem dX9_append_16 : decode cX9_append 16 = .ok (.ifCond .eq 35, 3) := by decide +kernel
theorem dX9_append_19 : decode cX9_append 19 = .ok (.aload_n 0, 1) := by decide +kernel
theorem dX9_append_20 : decode cX9_append 20 = .ok (.getfield 15, 3) := by decide +kernel
theorem dX9_append_23 : decode cX9_append 23 = .ok (.aload_n 0, 1) := by decide +kernel
theorem dX9_append_24 : decode cX9_append 24 = .ok (.getfield 9, 3) := by decide +kernel
theorem dX9_append_27 : decode cX9_append 27 = .ok (.arraylength, 1) := by decide +kernel
theorem dX9_append_28 : decode cX9_append 28 = .ok (.if_icmp .ge 23, 3) := by decide +kernel
theorem dX9_append_31 : decode cX9_append 31 = .ok (.aload_n 0, 1) := by decide +kernel
theorem dX9_append_32 : decode cX9_append 32 = .ok (.getfield 9, 3) := by decide +kernel
theorem dX9_append_35 : decode cX9_append 35 = .ok (.aload_n 0, 1) := by decide +kernel
theorem dX9_append_36 : decode cX9_append 36 = .ok (.getfield 15, 3) := by decide +kernel
theorem dX9_append_39 : decode cX9_append 39 = .ok (.iload_n 3, 1) := by decide +kernel
theorem dX9_append_40 : decode cX9_append 40 = .ok (.iastore, 1) := by decide +kernel
theorem dX9_append_41 : decode cX9_append 41 = .ok (.aload_n 0, 1) := by decide +kernel
theorem dX9_append_42 : decode cX9_append 42 = .ok (.dup, 1) := by decide +kernel
theorem dX9_append_43 : decode cX9_append 43 = .ok (.getfield 15, 3) := by decide +kernel
theorem dX9_append_46 : decode cX9_append 46 = .ok (.iconst 1, 1) := by decide +kernel
theorem dX9_append_47 : decode cX9_append 47 = .ok (.iadd, 1) := by decide +kernel
theorem dX9_append_48 : decode cX9_append 48 = .ok (.putfield 15, 3) := by decide +kernel
theorem dX9_append_51 : decode cX9_append 51 = .ok (.iinc 2 (-8), 3) := by decide +kernel
theorem dX9_append_54 : decode cX9_append 54 = .ok (.goto (-51), 3) := by decide +kernel
theorem dX9_append_57 : decode cX9_append 57 = .ok (.return_, 1) := by decide +kernel
theorem dX9_sign_0 : decode cX9_sign 0 = .ok (.aload_n 0, 1) := by decide +kernel
theorem dX9_sign_1 : decode cX9_sign 1 = .ok (.getfield 19, 3) := by decide +kernel
theorem dX9_sign_4 : decode cX9_sign 4 = .ok (.aload_n 0, 1) := by decide +kernel
theorem dX9_sign_5 : decode cX9_sign 5 = .ok (.getfield 15, 3) := by decide +kernel
theorem dX9_sign_8 : decode cX9_sign 8 = .ok (.if_icmp .ge 30, 3) := by decide +kernel
theorem dX9_sign_11 : decode cX9_sign 11 = .ok (.aload_n 0, 1) := by decide +kernel
theorem dX9_sign_12 : decode cX9_sign 12 = .ok (.getfield 9, 3) := by decide +kernel
theorem dX9_sign_15 : decode cX9_sign 15 = .ok (.aload_n 0, 1) := by decide +kernel
theorem dX9_sign_16 : decode cX9_sign 16 = .ok (.getfield 19, 3) := by decide +kernel
theorem dX9_sign_19 : decode cX9_sign 19 = .ok (.iaload, 1) := by decide +kernel
theorem dX9_sign_20 : decode cX9_sign 20 = .ok (.bipush 32, 2) := by decide +kernel
theorem dX9_sign_22 : decode cX9_sign 22 = .ok (.if_icmp .ne 16, 3) := by decide +kernel
theorem dX9_sign_25 : decode cX9_sign 25 = .ok (.aload_n 0, 1) := by decide +kernel
theorem dX9_sign_26 : decode cX9_sign 26 = .ok (.dup, 1) := by decide +kernel
theorem dX9_sign_27 : decode cX9_sign 27 = .ok (.getfield 19, 3) := by decide +kernel
theorem dX9_sign_30 : decode cX9_sign 30 = .ok (.iconst 1, 1) := by decide +kernel
theorem dX9_sign_31 : decode cX9_sign 31 = .ok (.iadd, 1) := by decide +kernel
theorem dX9_sign_32 : decode cX9_sign 32 = .ok (.putfield 19, 3) := by decide +kernel
theorem dX9_sign_35 : decode cX9_sign 35 = .ok (.goto (-35), 3) := by decide +kernel
theorem dX9_sign_38 : decode cX9_sign 38 = .ok (.aload_n 0, 1) := by decide +kernel
theorem dX9_sign_39 : decode cX9_sign 39 = .ok (.getfield 19, 3) := by decide +kernel
theorem dX9_sign_42 : decode cX9_sign 42 = .ok (.aload_n 0, 1) := by decide +kernel
theorem dX9_sign_43 : decode cX9_sign 43 = .ok (.getfield 15, 3) := by decide +kernel
theorem dX9_sign_46 : decode cX9_sign 46 = .ok (.if_icmp .ge 15, 3) := by decide +kernel
theorem dX9_sign_49 : decode cX9_sign 49 = .ok (.aload_n 0, 1) := by decide +kernel
theorem dX9_sign_50 : decode cX9_sign 50 = .ok (.getfield 9, 3) := by decide +kernel
theorem dX9_sign_53 : decode cX9_sign 53 = .ok (.aload_n 0, 1) := by decide +kernel
theorem dX9_sign_54 : decode cX9_sign 54 = .ok (.getfield 19, 3) := by decide +kernel
theorem dX9_sign_57 : decode cX9_sign 57 = .ok (.iaload, 1) := by decide +kernel
theorem dX9_sign_58 : decode cX9_sign 58 = .ok (.goto 4, 3) := by decide +kernel
theorem dX9_sign_61 : decode cX9_sign 61 = .ok (.iconst (-1), 1) := by decide +kernel
theorem dX9_sign_62 : decode cX9_sign 62 = .ok (.ireturn, 1) := by decide +kernel
theorem dX9_takes_0 : decode cX9_takes 0 = .ok (.aload_n 0, 1) := by decide +kernel
theorem dX9_takes_1 : decode cX9_takes 1 = .ok (.invokevirtual 22, 3) := by decide +kernel
theorem dX9_takes_4 : decode cX9_takes 4 = .ok (.iload_n 1, 1) := by decide +kernel
theorem dX9_takes_5 : decode cX9_takes 5 = .ok (.if_icmp .eq 5, 3) := by decide +kernel
theorem dX9_takes_8 : decode cX9_takes 8 = .ok (.iconst 0, 1) := by decide +kernel
theorem dX9_takes_9 : decode cX9_takes 9 = .ok (.ireturn, 1) := by decide +kernel
theorem dX9_takes_10 : decode cX9_takes 10 = .ok (.aload_n 0, 1) := by decide +kernel
theorem dX9_takes_11 : decode cX9_takes 11 = .ok (.dup, 1) := by decide +kernel
theorem dX9_takes_12 : decode cX9_takes 12 = .ok (.getfield 19, 3) := by decide +kernel
theorem dX9_takes_15 : decode cX9_takes 15 = .ok (.iconst 1, 1) := by decide +kernel
theorem dX9_takes_16 : decode cX9_takes 16 = .ok (.iadd, 1) := by decide +kernel
theorem dX9_takes_17 : decode cX9_takes 17 = .ok (.putfield 19, 3) := by decide +kernel
theorem dX9_takes_20 : decode cX9_takes 20 = .ok (.iconst 1, 1) := by decide +kernel
theorem dX9_takes_21 : decode cX9_takes 21 = .ok (.ireturn, 1) := by decide +kernel
theorem dX9_number_0 : decode cX9_number 0 = .ok (.iconst 0, 1) := by decide +kernel
theorem dX9_number_1 : decode cX9_number 1 = .ok (.istore_n 2, 1) := by decide +kernel
theorem dX9_number_2 : decode cX9_number 2 = .ok (.iconst 0, 1) := by decide +kernel
theorem dX9_number_3 : decode cX9_number 3 = .ok (.istore_n 3, 1) := by decide +kernel
theorem dX9_number_4 : decode cX9_number 4 = .ok (.aload_n 0, 1) := by decide +kernel
theorem dX9_number_5 : decode cX9_number 5 = .ok (.getfield 19, 3) := by decide +kernel
theorem dX9_number_8 : decode cX9_number 8 = .ok (.aload_n 0, 1) := by decide +kernel
theorem dX9_number_9 : decode cX9_number 9 = .ok (.getfield 15, 3) := by decide +kernel
theorem dX9_number_12 : decode cX9_number 12 = .ok (.if_icmp .ge 72, 3) := by decide +kernel
theorem dX9_number_15 : decode cX9_number 15 = .ok (.aload_n 0, 1) := by decide +kernel
theorem dX9_number_16 : decode cX9_number 16 = .ok (.getfield 9, 3) := by decide +kernel
theorem dX9_number_19 : decode cX9_number 19 = .ok (.aload_n 0, 1) := by decide +kernel
theorem dX9_number_20 : decode cX9_number 20 = .ok (.getfield 19, 3) := by decide +kernel
theorem dX9_number_23 : decode cX9_number 23 = .ok (.iaload, 1) := by decide +kernel
theorem dX9_number_24 : decode cX9_number 24 = .ok (.bipush 48, 2) := by decide +kernel
theorem dX9_number_26 : decode cX9_number 26 = .ok (.if_icmp .lt 58, 3) := by decide +kernel
theorem dX9_number_29 : decode cX9_number 29 = .ok (.aload_n 0, 1) := by decide +kernel
theorem dX9_number_30 : decode cX9_number 30 = .ok (.getfield 9, 3) := by decide +kernel
theorem dX9_number_33 : decode cX9_number 33 = .ok (.aload_n 0, 1) := by decide +kernel
theorem dX9_number_34 : decode cX9_number 34 = .ok (.getfield 19, 3) := by decide +kernel
theorem dX9_number_37 : decode cX9_number 37 = .ok (.iaload, 1) := by decide +kernel
theorem dX9_number_38 : decode cX9_number 38 = .ok (.bipush 57, 2) := by decide +kernel
theorem dX9_number_40 : decode cX9_number 40 = .ok (.if_icmp .gt 44, 3) := by decide +kernel
theorem dX9_number_43 : decode cX9_number 43 = .ok (.iload_n 3, 1) := by decide +kernel
theorem dX9_number_44 : decode cX9_number 44 = .ok (.iload_n 1, 1) := by decide +kernel
theorem dX9_number_45 : decode cX9_number 45 = .ok (.if_icmp .lt 5, 3) := by decide +kernel
theorem dX9_number_48 : decode cX9_number 48 = .ok (.iconst (-1), 1) := by decide +kernel
theorem dX9_number_49 : decode cX9_number 49 = .ok (.ireturn, 1) := by decide +kernel
theorem dX9_number_50 : decode cX9_number 50 = .ok (.iload_n 2, 1) := by decide +kernel
theorem dX9_number_51 : decode cX9_number 51 = .ok (.bipush 10, 2) := by decide +kernel
theorem dX9_number_53 : decode cX9_number 53 = .ok (.imul, 1) := by decide +kernel
theorem dX9_number_54 : decode cX9_number 54 = .ok (.aload_n 0, 1) := by decide +kernel
theorem dX9_number_55 : decode cX9_number 55 = .ok (.getfield 9, 3) := by decide +kernel
theorem dX9_number_58 : decode cX9_number 58 = .ok (.aload_n 0, 1) := by decide +kernel
theorem dX9_number_59 : decode cX9_number 59 = .ok (.getfield 19, 3) := by decide +kernel
theorem dX9_number_62 : decode cX9_number 62 = .ok (.iaload, 1) := by decide +kernel
theorem dX9_number_63 : decode cX9_number 63 = .ok (.iadd, 1) := by decide +kernel
theorem dX9_number_64 : decode cX9_number 64 = .ok (.bipush 48, 2) := by decide +kernel
theorem dX9_number_66 : decode cX9_number 66 = .ok (.isub, 1) := by decide +kernel
theorem dX9_number_67 : decode cX9_number 67 = .ok (.istore_n 2, 1) := by decide +kernel
theorem dX9_number_68 : decode cX9_number 68 = .ok (.iinc 3 1, 3) := by decide +kernel
theorem dX9_number_71 : decode cX9_number 71 = .ok (.aload_n 0, 1) := by decide +kernel
theorem dX9_number_72 : decode cX9_number 72 = .ok (.dup, 1) := by decide +kernel
theorem dX9_number_73 : decode cX9_number 73 = .ok (.getfield 19, 3) := by decide +kernel
theorem dX9_number_76 : decode cX9_number 76 = .ok (.iconst 1, 1) := by decide +kernel
theorem dX9_number_77 : decode cX9_number 77 = .ok (.iadd, 1) := by decide +kernel
theorem dX9_number_78 : decode cX9_number 78 = .ok (.putfield 19, 3) := by decide +kernel
theorem dX9_number_81 : decode cX9_number 81 = .ok (.goto (-77), 3) := by decide +kernel
theorem dX9_number_84 : decode cX9_number 84 = .ok (.iload_n 3, 1) := by decide +kernel
theorem dX9_number_85 : decode cX9_number 85 = .ok (.ifCond .ne 7, 3) := by decide +kernel
theorem dX9_number_88 : decode cX9_number 88 = .ok (.iconst (-1), 1) := by decide +kernel
theorem dX9_number_89 : decode cX9_number 89 = .ok (.goto 4, 3) := by decide +kernel
theorem dX9_number_92 : decode cX9_number 92 = .ok (.iload_n 2, 1) := by decide +kernel
theorem dX9_number_93 : decode cX9_number 93 = .ok (.ireturn, 1) := by decide +kernel
theorem dX9_isDigit_0 : decode cX9_isDigit 0 = .ok (.iload_n 0, 1) := by decide +kernel
theorem dX9_isDigit_1 : decode cX9_isDigit 1 = .ok (.bipush 48, 2) := by decide +kernel
theorem dX9_isDigit_3 : decode cX9_isDigit 3 = .ok (.if_icmp .lt 13, 3) := by decide +kernel
theorem dX9_isDigit_6 : decode cX9_isDigit 6 = .ok (.iload_n 0, 1) := by decide +kernel
theorem dX9_isDigit_7 : decode cX9_isDigit 7 = .ok (.bipush 57, 2) := by decide +kernel
theorem dX9_isDigit_9 : decode cX9_isDigit 9 = .ok (.if_icmp .gt 7, 3) := by decide +kernel
theorem dX9_isDigit_12 : decode cX9_isDigit 12 = .ok (.iconst 1, 1) := by decide +kernel
theorem dX9_isDigit_13 : decode cX9_isDigit 13 = .ok (.goto 4, 3) := by decide +kernel
theorem dX9_isDigit_16 : decode cX9_isDigit 16 = .ok (.iconst 0, 1) := by decide +kernel
theorem dX9_isDigit_17 : decode cX9_isDigit 17 = .ok (.ireturn, 1) := by decide +kernel
theorem dX8_init_0 : decode cX8_init 0 = .ok (.aload_n 0, 1) := by decide +kernel
theorem dX8_init_1 : decode cX8_init 1 = .ok (.invokespecial 3, 3) := by decide +kernel
theorem dX8_init_4 : decode cX8_init 4 = .ok (.aload_n 0, 1) := by decide +kernel
theorem dX8_init_5 : decode cX8_init 5 = .ok (.iconst 4, 1) := by decide +kernel
theorem dX8_init_6 : decode cX8_init 6 = .ok (.newarray .int, 2) := by decide +kernel
theorem dX8_init_8 : decode cX8_init 8 = .ok (.putfield 9, 3) := by decide +kernel
theorem dX8_init_11 : decode cX8_init 11 = .ok (.aload_n 0, 1) := by decide +kernel
theorem dX8_init_12 : decode cX8_init 12 = .ok (.iconst 4, 1) := by decide +kernel
theorem dX8_init_13 : decode cX8_init 13 = .ok (.newarray .int, 2) := by decide +kernel
theorem dX8_init_15 : decode cX8_init 15 = .ok (.putfield 15, 3) := by decide +kernel
theorem dX8_init_18 : decode cX8_init 18 = .ok (.aload_n 0, 1) := by decide +kernel
theorem dX8_init_19 : decode cX8_init 19 = .ok (.iconst 4, 1) := by decide +kernel
theorem dX8_init_20 : decode cX8_init 20 = .ok (.newarray .int, 2) := by decide +kernel
theorem dX8_init_22 : decode cX8_init 22 = .ok (.putfield 18, 3) := by decide +kernel
theorem dX8_init_25 : decode cX8_init 25 = .ok (.aload_n 0, 1) := by decide +kernel
theorem dX8_init_26 : decode cX8_init 26 = .ok (.bipush 12, 2) := by decide +kernel
theorem dX8_init_28 : decode cX8_init 28 = .ok (.newarray .int, 2) := by decide +kernel
theorem dX8_init_30 : decode cX8_init 30 = .ok (.putfield 21, 3) := by decide +kernel
theorem dX8_init_33 : decode cX8_init 33 = .ok (.aload_n 0, 1) := by decide +kernel
theorem dX8_init_34 : decode cX8_init 34 = .ok (.bipush 7, 2) := by decide +kernel
theorem dX8_init_36 : decode cX8_init 36 = .ok (.newarray .int, 2) := by decide +kernel
theorem dX8_init_38 : decode cX8_init 38 = .ok (.putfield 24, 3) := by decide +kernel
theorem dX8_init_41 : decode cX8_init 41 = .ok (.return_, 1) := by decide +kernel
theorem dX8_begin_0 : decode cX8_begin 0 = .ok (.iconst 0, 1) := by decide +kernel
theorem dX8_begin_1 : decode cX8_begin 1 = .ok (.istore_n 2, 1) := by decide +kernel
theorem dX8_begin_2 : decode cX8_begin 2 = .ok (.iload_n 2, 1) := by decide +kernel
theorem dX8_begin_3 : decode cX8_begin 3 = .ok (.iconst 4, 1) := by decide +kernel
theorem dX8_begin_4 : decode cX8_begin 4 = .ok (.if_icmp .ge 26, 3) := by decide +kernel
theorem dX8_begin_7 : decode cX8_begin 7 = .ok (.aload_n 0, 1) := by decide +kernel
theorem dX8_begin_8 : decode cX8_begin 8 = .ok (.getfield 9, 3) := by decide +kernel
theorem dX8_begin_11 : decode cX8_begin 11 = .ok (.iload_n 2, 1) := by decide +kernel
theorem dX8_begin_12 : decode cX8_begin 12 = .ok (.aload_n 1, 1) := by decide +kernel
theorem dX8_begin_13 : decode cX8_begin 13 = .ok (.getfield 27, 3) := by decide +kernel
theorem dX8_begin_16 : decode cX8_begin 16 = .ok (.iload_n 2, 1) := by decide +kernel
theorem dX8_begin_17 : decode cX8_begin 17 = .ok (.iaload, 1) := by decide +kernel
theorem dX8_begin_18 : decode cX8_begin 18 = .ok (.iastore, 1) := by decide +kernel
theorem dX8_begin_19 : decode cX8_begin 19 = .ok (.aload_n 0, 1) := by decide +kernel
theorem dX8_begin_20 : decode cX8_begin 20 = .ok (.iload_n 2, 1) := by decide +kernel
theorem dX8_begin_21 : decode cX8_begin 21 = .ok (.invokevirtual 32, 3) := by decide +kernel
theorem dX8_begin_24 : decode cX8_begin 24 = .ok (.iinc 2 1, 3) := by decide +kernel
theorem dX8_begin_27 : decode cX8_begin 27 = .ok (.goto (-25), 3) := by decide +kernel
theorem dX8_begin_30 : decode cX8_begin 30 = .ok (.iconst 0, 1) := by decide +kernel
theorem dX8_begin_31 : decode cX8_begin 31 = .ok (.istore_n 2, 1) := by decide +kernel
theorem dX8_begin_32 : decode cX8_begin 32 = .ok (.iload_n 2, 1) := by decide +kernel
theorem dX8_begin_33 : decode cX8_begin 33 = .ok (.bipush 12, 2) := by decide +kernel
theorem dX8_begin_35 : decode cX8_begin 35 = .ok (.if_icmp .ge 16, 3) := by decide +kernel
theorem dX8_begin_38 : decode cX8_begin 38 = .ok (.aload_n 0, 1) := by decide +kernel
theorem dX8_begin_39 : decode cX8_begin 39 = .ok (.getfield 21, 3) := by decide +kernel
theorem dX8_begin_42 : decode cX8_begin 42 = .ok (.iload_n 2, 1) := by decide +kernel
theorem dX8_begin_43 : decode cX8_begin 43 = .ok (.iconst 0, 1) := by decide +kernel
theorem dX8_begin_44 : decode cX8_begin 44 = .ok (.iastore, 1) := by decide +kernel
theorem dX8_begin_45 : decode cX8_begin 45 = .ok (.iinc 2 1, 3) := by decide +kernel
theorem dX8_begin_48 : decode cX8_begin 48 = .ok (.goto (-16), 3) := by decide +kernel
theorem dX8_begin_51 : decode cX8_begin 51 = .ok (.iconst 0, 1) := by decide +kernel
theorem dX8_begin_52 : decode cX8_begin 52 = .ok (.istore_n 2, 1) := by decide +kernel
theorem dX8_begin_53 : decode cX8_begin 53 = .ok (.iload_n 2, 1) := by decide +kernel
theorem dX8_begin_54 : decode cX8_begin 54 = .ok (.bipush 7, 2) := by decide +kernel
theorem dX8_begin_56 : decode cX8_begin 56 = .ok (.if_icmp .ge 16, 3) := by decide +kernel
theorem dX8_begin_59 : decode cX8_begin 59 = .ok (.aload_n 0, 1) := by decide +kernel
theorem dX8_begin_60 : decode cX8_begin 60 = .ok (.getfield 24, 3) := by decide +kernel
theorem dX8_begin_63 : decode cX8_begin 63 = .ok (.iload_n 2, 1) := by decide +kernel
theorem dX8_begin_64 : decode cX8_begin 64 = .ok (.iconst 0, 1) := by decide +kernel
theorem dX8_begin_65 : decode cX8_begin 65 = .ok (.iastore, 1) := by decide +kernel
theorem dX8_begin_66 : decode cX8_begin 66 = .ok (.iinc 2 1, 3) := by decide +kernel
theorem dX8_begin_69 : decode cX8_begin 69 = .ok (.goto (-16), 3) := by decide +kernel
theorem dX8_begin_72 : decode cX8_begin 72 = .ok (.aload_n 0, 1) := by decide +kernel
theorem dX8_begin_73 : decode cX8_begin 73 = .ok (.iconst 0, 1) := by decide +kernel
theorem dX8_begin_74 : decode cX8_begin 74 = .ok (.putfield 36, 3) := by decide +kernel
theorem dX8_begin_77 : decode cX8_begin 77 = .ok (.aload_n 0, 1) := by decide +kernel
theorem dX8_begin_78 : decode cX8_begin 78 = .ok (.aload_n 1, 1) := by decide +kernel
theorem dX8_begin_79 : decode cX8_begin 79 = .ok (.getfield 40, 3) := by decide +kernel
theorem dX8_begin_82 : decode cX8_begin 82 = .ok (.putfield 43, 3) := by decide +kernel
theorem dX8_begin_85 : decode cX8_begin 85 = .ok (.aload_n 0, 1) := by decide +kernel
theorem dX8_begin_86 : decode cX8_begin 86 = .ok (.iconst 0, 1) := by decide +kernel
theorem dX8_begin_87 : decode cX8_begin 87 = .ok (.putfield 44, 3) := by decide +kernel
theorem dX8_begin_90 : decode cX8_begin 90 = .ok (.return_, 1) := by decide +kernel
theorem dX8_copyFrom_0 : decode cX8_copyFrom 0 = .ok (.aload_n 1, 1) := by decide +kernel
theorem dX8_copyFrom_1 : decode cX8_copyFrom 1 = .ok (.getfield 9, 3) := by decide +kernel
theorem dX8_copyFrom_4 : decode cX8_copyFrom 4 = .ok (.iconst 0, 1) := by decide +kernel
theorem dX8_copyFrom_5 : decode cX8_copyFrom 5 = .ok (.aload_n 0, 1) := by decide +kernel
theorem dX8_copyFrom_6 : decode cX8_copyFrom 6 = .ok (.getfield 9, 3) := by decide +kernel
theorem dX8_copyFrom_9 : decode cX8_copyFrom 9 = .ok (.iconst 0, 1) := by decide +kernel
theorem dX8_copyFrom_10 : decode cX8_copyFrom 10 = .ok (.iconst 4, 1) := by decide +kernel
theorem dX8_copyFrom_11 : decode cX8_copyFrom 11 = .ok (.invokestatic 47, 3) := by decide +kernel
theorem dX8_copyFrom_14 : decode cX8_copyFrom 14 = .ok (.aload_n 1, 1) := by decide +kernel
theorem dX8_copyFrom_15 : decode cX8_copyFrom 15 = .ok (.getfield 15, 3) := by decide +kernel
theorem dX8_copyFrom_18 : decode cX8_copyFrom 18 = .ok (.iconst 0, 1) := by decide +kernel
theorem dX8_copyFrom_19 : decode cX8_copyFrom 19 = .ok (.aload_n 0, 1) := by decide +kernel
theorem dX8_copyFrom_20 : decode cX8_copyFrom 20 = .ok (.getfield 15, 3) := by decide +kernel
theorem dX8_copyFrom_23 : decode cX8_copyFrom 23 = .ok (.iconst 0, 1) := by decide +kernel
theorem dX8_copyFrom_24 : decode cX8_copyFrom 24 = .ok (.iconst 4, 1) := by decide +kernel
theorem dX8_copyFrom_25 : decode cX8_copyFrom 25 = .ok (.invokestatic 47, 3) := by decide +kernel
theorem dX8_copyFrom_28 : decode cX8_copyFrom 28 = .ok (.aload_n 1, 1) := by decide +kernel
theorem dX8_copyFrom_29 : decode cX8_copyFrom 29 = .ok (.getfield 18, 3) := by decide +kernel
theorem dX8_copyFrom_32 : decode cX8_copyFrom 32 = .ok (.iconst 0, 1) := by decide +kernel
theorem dX8_copyFrom_33 : decode cX8_copyFrom 33 = .ok (.aload_n 0, 1) := by decide +kernel
theorem dX8_copyFrom_34 : decode cX8_copyFrom 34 = .ok (.getfield 18, 3) := by decide +kernel
theorem dX8_copyFrom_37 : decode cX8_copyFrom 37 = .ok (.iconst 0, 1) := by decide +kernel
theorem dX8_copyFrom_38 : decode cX8_copyFrom 38 = .ok (.iconst 4, 1) := by decide +kernel
theorem dX8_copyFrom_39 : decode cX8_copyFrom 39 = .ok (.invokestatic 47, 3) := by decide +kernel
theorem dX8_copyFrom_42 : decode cX8_copyFrom 42 = .ok (.aload_n 1, 1) := by decide +kernel
theorem dX8_copyFrom_43 : decode cX8_copyFrom 43 = .ok (.getfield 21, 3) := by decide +kernel
theorem dX8_copyFrom_46 : decode cX8_copyFrom 46 = .ok (.iconst 0, 1) := by decide +kernel
theorem dX8_copyFrom_47 : decode cX8_copyFrom 47 = .ok (.aload_n 0, 1) := by decide +kernel
theorem dX8_copyFrom_48 : decode cX8_copyFrom 48 = .ok (.getfield 21, 3) := by decide +kernel
theorem dX8_copyFrom_51 : decode cX8_copyFrom 51 = .ok (.iconst 0, 1) := by decide +kernel
theorem dX8_copyFrom_52 : decode cX8_copyFrom 52 = .ok (.bipush 12, 2) := by decide +kernel
theorem dX8_copyFrom_54 : decode cX8_copyFrom 54 = .ok (.invokestatic 47, 3) := by decide +kernel
theorem dX8_copyFrom_57 : decode cX8_copyFrom 57 = .ok (.aload_n 1, 1) := by decide +kernel
theorem dX8_copyFrom_58 : decode cX8_copyFrom 58 = .ok (.getfield 24, 3) := by decide +kernel
theorem dX8_copyFrom_61 : decode cX8_copyFrom 61 = .ok (.iconst 0, 1) := by decide +kernel
theorem dX8_copyFrom_62 : decode cX8_copyFrom 62 = .ok (.aload_n 0, 1) := by decide +kernel
theorem dX8_copyFrom_63 : decode cX8_copyFrom 63 = .ok (.getfield 24, 3) := by decide +kernel
theorem dX8_copyFrom_66 : decode cX8_copyFrom 66 = .ok (.iconst 0, 1) := by decide +kernel
theorem dX8_copyFrom_67 : decode cX8_copyFrom 67 = .ok (.bipush 7, 2) := by decide +kernel
theorem dX8_copyFrom_69 : decode cX8_copyFrom 69 = .ok (.invokestatic 47, 3) := by decide +kernel
theorem dX8_copyFrom_72 : decode cX8_copyFrom 72 = .ok (.aload_n 0, 1) := by decide +kernel
theorem dX8_copyFrom_73 : decode cX8_copyFrom 73 = .ok (.aload_n 1, 1) := by decide +kernel
theorem dX8_copyFrom_74 : decode cX8_copyFrom 74 = .ok (.getfield 36, 3) := by decide +kernel
theorem dX8_copyFrom_77 : decode cX8_copyFrom 77 = .ok (.putfield 36, 3) := by decide +kernel
theorem dX8_copyFrom_80 : decode cX8_copyFrom 80 = .ok (.aload_n 0, 1) := by decide +kernel
theorem dX8_copyFrom_81 : decode cX8_copyFrom 81 = .ok (.aload_n 1, 1) := by decide +kernel
theorem dX8_copyFrom_82 : decode cX8_copyFrom 82 = .ok (.getfield 43, 3) := by decide +kernel
theorem dX8_copyFrom_85 : decode cX8_copyFrom 85 = .ok (.putfield 43, 3) := by decide +kernel
theorem dX8_copyFrom_88 : decode cX8_copyFrom 88 = .ok (.aload_n 0, 1) := by decide +kernel
theorem dX8_copyFrom_89 : decode cX8_copyFrom 89 = .ok (.aload_n 1, 1) := by decide +kernel
theorem dX8_copyFrom_90 : decode cX8_copyFrom 90 = .ok (.getfield 44, 3) := by decide +kernel
theorem dX8_copyFrom_93 : decode cX8_copyFrom 93 = .ok (.putfield 44, 3) := by decide +kernel
theorem dX8_copyFrom_96 : decode cX8_copyFrom 96 = .ok (.return_, 1) := by decide +kernel
theorem dX8_putTo_0 : decode cX8_putTo 0 = .ok (.aload_n 0, 1) := by decide +kernel
theorem dX8_putTo_1 : decode cX8_putTo 1 = .ok (.getfield 15, 3) := by decide +kernel
theorem dX8_putTo_4 : decode cX8_putTo 4 = .ok (.iload_n 1, 1) := by decide +kernel
theorem dX8_putTo_5 : decode cX8_putTo 5 = .ok (.iload_n 2, 1) := by decide +kernel
theorem dX8_putTo_6 : decode cX8_putTo 6 = .ok (.iastore, 1) := by decide +kernel
theorem dX8_putTo_7 : decode cX8_putTo 7 = .ok (.aload_n 0, 1) := by decide +kernel
theorem dX8_putTo_8 : decode cX8_putTo 8 = .ok (.getfield 18, 3) := by decide +kernel
theorem dX8_putTo_11 : decode cX8_putTo 11 = .ok (.iload_n 1, 1) := by decide +kernel
theorem dX8_putTo_12 : decode cX8_putTo 12 = .ok (.iconst 1, 1) := by decide +kernel
theorem dX8_putTo_13 : decode cX8_putTo 13 = .ok (.iastore, 1) := by decide +kernel
theorem dX8_putTo_14 : decode cX8_putTo 14 = .ok (.return_, 1) := by decide +kernel
theorem dX8_takeWay_0 : decode cX8_takeWay 0 = .ok (.aload_n 0, 1) := by decide +kernel
theorem dX8_takeWay_1 : decode cX8_takeWay 1 = .ok (.getfield 15, 3) := by decide +kernel
theorem dX8_takeWay_4 : decode cX8_takeWay 4 = .ok (.iload_n 1, 1) := by decide +kernel
theorem dX8_takeWay_5 : decode cX8_takeWay 5 = .ok (.iconst (-1), 1) := by decide +kernel
theorem dX8_takeWay_6 : decode cX8_takeWay 6 = .ok (.iastore, 1) := by decide +kernel
theorem dX8_takeWay_7 : decode cX8_takeWay 7 = .ok (.aload_n 0, 1) := by decide +kernel
theorem dX8_takeWay_8 : decode cX8_takeWay 8 = .ok (.getfield 18, 3) := by decide +kernel
theorem dX8_takeWay_11 : decode cX8_takeWay 11 = .ok (.iload_n 1, 1) := by decide +kernel
theorem dX8_takeWay_12 : decode cX8_takeWay 12 = .ok (.iconst 0, 1) := by decide +kernel
theorem dX8_takeWay_13 : decode cX8_takeWay 13 = .ok (.iastore, 1) := by decide +kernel
theorem dX8_takeWay_14 : decode cX8_takeWay 14 = .ok (.return_, 1) := by decide +kernel
theorem dX8_setsOnWay_0 : decode cX8_setsOnWay 0 = .ok (.iconst 0, 1) := by decide +kernel
theorem dX8_setsOnWay_1 : decode cX8_setsOnWay 1 = .ok (.istore_n 1, 1) := by decide +kernel
theorem dX8_setsOnWay_2 : decode cX8_setsOnWay 2 = .ok (.iconst 0, 1) := by decide +kernel
theorem dX8_setsOnWay_3 : decode cX8_setsOnWay 3 = .ok (.istore_n 2, 1) := by decide +kernel
theorem dX8_setsOnWay_4 : decode cX8_setsOnWay 4 = .ok (.iload_n 2, 1) := by decide +kernel
theorem dX8_setsOnWay_5 : decode cX8_setsOnWay 5 = .ok (.iconst 4, 1) := by decide +kernel
theorem dX8_setsOnWay_6 : decode cX8_setsOnWay 6 = .ok (.if_icmp .ge 25, 3) := by decide +kernel
theorem dX8_setsOnWay_9 : decode cX8_setsOnWay 9 = .ok (.aload_n 0, 1) := by decide +kernel
theorem dX8_setsOnWay_10 : decode cX8_setsOnWay 10 = .ok (.getfield 15, 3) := by decide +kernel
theorem dX8_setsOnWay_13 : decode cX8_setsOnWay 13 = .ok (.iload_n 2, 1) := by decide +kernel
theorem dX8_setsOnWay_14 : decode cX8_setsOnWay 14 = .ok (.iaload, 1) := by decide +kernel
theorem dX8_setsOnWay_15 : decode cX8_setsOnWay 15 = .ok (.iconst (-1), 1) := by decide +kernel
theorem dX8_setsOnWay_16 : decode cX8_setsOnWay 16 = .ok (.if_icmp .eq 9, 3) := by decide +kernel
theorem dX8_setsOnWay_19 : decode cX8_setsOnWay 19 = .ok (.iload_n 1, 1) := by decide +kernel
theorem dX8_setsOnWay_20 : decode cX8_setsOnWay 20 = .ok (.iconst 1, 1) := by decide +kernel
theorem dX8_setsOnWay_21 : decode cX8_setsOnWay 21 = .ok (.iload_n 2, 1) := by decide +kernel
theorem dX8_setsOnWay_22 : decode cX8_setsOnWay 22 = .ok (.ishl, 1) := by decide +kernel
theorem dX8_setsOnWay_23 : decode cX8_setsOnWay 23 = .ok (.ior, 1) := by decide +kernel
theorem dX8_setsOnWay_24 : decode cX8_setsOnWay 24 = .ok (.istore_n 1, 1) := by decide +kernel
theorem dX8_setsOnWay_25 : decode cX8_setsOnWay 25 = .ok (.iinc 2 1, 3) := by decide +kernel
theorem dX8_setsOnWay_28 : decode cX8_setsOnWay 28 = .ok (.goto (-24), 3) := by decide +kernel
theorem dX8_setsOnWay_31 : decode cX8_setsOnWay 31 = .ok (.iload_n 1, 1) := by decide +kernel
theorem dX8_setsOnWay_32 : decode cX8_setsOnWay 32 = .ok (.ireturn, 1) := by decide +kernel
theorem dX4_init_0 : decode cX4_init 0 = .ok (.aload_n 0, 1) := by decide +kernel
theorem dX4_init_1 : decode cX4_init 1 = .ok (.invokespecial 3, 3) := by decide +kernel
theorem dX4_init_4 : decode cX4_init 4 = .ok (.aload_n 0, 1) := by decide +kernel
theorem dX4_init_5 : decode cX4_init 5 = .ok (.iconst 4, 1) := by decide +kernel
theorem dX4_init_6 : decode cX4_init 6 = .ok (.sipush 240, 3) := by decide +kernel
theorem dX4_init_9 : decode cX4_init 9 = .ok (.multianewarray 9 2, 4) := by decide +kernel
theorem dX4_init_13 : decode cX4_init 13 = .ok (.putfield 11, 3) := by decide +kernel
theorem dX4_init_16 : decode cX4_init 16 = .ok (.aload_n 0, 1) := by decide +kernel
theorem dX4_init_17 : decode cX4_init 17 = .ok (.iconst 4, 1) := by decide +kernel
theorem dX4_init_18 : decode cX4_init 18 = .ok (.newarray .int, 2) := by decide +kernel
theorem dX4_init_20 : decode cX4_init 20 = .ok (.putfield 16, 3) := by decide +kernel
theorem dX4_init_23 : decode cX4_init 23 = .ok (.aload_n 0, 1) := by decide +kernel
theorem dX4_init_24 : decode cX4_init 24 = .ok (.sipush 240, 3) := by decide +kernel
theorem dX4_init_27 : decode cX4_init 27 = .ok (.newarray .int, 2) := by decide +kernel
theorem dX4_init_29 : decode cX4_init 29 = .ok (.putfield 20, 3) := by decide +kernel
theorem dX4_init_32 : decode cX4_init 32 = .ok (.aload_n 0, 1) := by decide +kernel
theorem dX4_init_33 : decode cX4_init 33 = .ok (.iconst (-1), 1) := by decide +kernel
theorem dX4_init_34 : decode cX4_init 34 = .ok (.putfield 23, 3) := by decide +kernel
theorem dX4_init_37 : decode cX4_init 37 = .ok (.return_, 1) := by decide +kernel
theorem dX4_keep_0 : decode cX4_keep 0 = .ok (.aload_n 0, 1) := by decide +kernel
theorem dX4_keep_1 : decode cX4_keep 1 = .ok (.getfield 27, 3) := by decide +kernel
theorem dX4_keep_4 : decode cX4_keep 4 = .ok (.iconst 4, 1) := by decide +kernel
theorem dX4_keep_5 : decode cX4_keep 5 = .ok (.if_icmp .ge 20, 3) := by decide +kernel
theorem dX4_keep_8 : decode cX4_keep 8 = .ok (.iload_n 2, 1) := by decide +kernel
theorem dX4_keep_9 : decode cX4_keep 9 = .ok (.ifCond .lt 16, 3) := by decide +kernel
theorem dX4_keep_12 : decode cX4_keep 12 = .ok (.iload_n 2, 1) := by decide +kernel
theorem dX4_keep_13 : decode cX4_keep 13 = .ok (.sipush 240, 3) := by decide +kernel
theorem dX4_keep_16 : decode cX4_keep 16 = .ok (.if_icmp .gt 9, 3) := by decide +kernel
theorem dX4_keep_19 : decode cX4_keep 19 = .ok (.iload_n 2, 1) := by decide +kernel
theorem dX4_keep_20 : decode cX4_keep 20 = .ok (.aload_n 1, 1) := by decide +kernel
theorem dX4_keep_21 : decode cX4_keep 21 = .ok (.arraylength, 1) := by decide +kernel
theorem dX4_keep_22 : decode cX4_keep 22 = .ok (.if_icmp .le 5, 3) := by decide +kernel
theorem dX4_keep_25 : decode cX4_keep 25 = .ok (.iconst (-1), 1) := by decide +kernel
theorem dX4_keep_26 : decode cX4_keep 26 = .ok (.ireturn, 1) := by decide +kernel
theorem dX4_keep_27 : decode cX4_keep 27 = .ok (.aload_n 1, 1) := by decide +kernel
theorem dX4_keep_28 : decode cX4_keep 28 = .ok (.iconst 0, 1) := by decide +kernel
theorem dX4_keep_29 : decode cX4_keep 29 = .ok (.aload_n 0, 1) := by decide +kernel
theorem dX4_keep_30 : decode cX4_keep 30 = .ok (.getfield 11, 3) := by decide +kernel
theorem dX4_keep_33 : decode cX4_keep 33 = .ok (.aload_n 0, 1) := by decide +kernel
theorem dX4_keep_34 : decode cX4_keep 34 = .ok (.getfield 27, 3) := by decide +kernel
theorem dX4_keep_37 : decode cX4_keep 37 = .ok (.aaload, 1) := by decide +kernel
theorem dX4_keep_38 : decode cX4_keep 38 = .ok (.iconst 0, 1) := by decide +kernel
theorem dX4_keep_39 : decode cX4_keep 39 = .ok (.iload_n 2, 1) := by decide +kernel
theorem dX4_keep_40 : decode cX4_keep 40 = .ok (.invokestatic 30, 3) := by decide +kernel
theorem dX4_keep_43 : decode cX4_keep 43 = .ok (.aload_n 0, 1) := by decide +kernel
theorem dX4_keep_44 : decode cX4_keep 44 = .ok (.getfield 16, 3) := by decide +kernel
theorem dX4_keep_47 : decode cX4_keep 47 = .ok (.aload_n 0, 1) := by decide +kernel
theorem dX4_keep_48 : decode cX4_keep 48 = .ok (.getfield 27, 3) := by decide +kernel
theorem dX4_keep_51 : decode cX4_keep 51 = .ok (.iload_n 2, 1) := by decide +kernel
theorem dX4_keep_52 : decode cX4_keep 52 = .ok (.iastore, 1) := by decide +kernel
theorem dX4_keep_53 : decode cX4_keep 53 = .ok (.aload_n 0, 1) := by decide +kernel
theorem dX4_keep_54 : decode cX4_keep 54 = .ok (.dup, 1) := by decide +kernel
theorem dX4_keep_55 : decode cX4_keep 55 = .ok (.getfield 27, 3) := by decide +kernel
theorem dX4_keep_58 : decode cX4_keep 58 = .ok (.iconst 1, 1) := by decide +kernel
theorem dX4_keep_59 : decode cX4_keep 59 = .ok (.iadd, 1) := by decide +kernel
theorem dX4_keep_60 : decode cX4_keep 60 = .ok (.putfield 27, 3) := by decide +kernel
theorem dX4_keep_63 : decode cX4_keep 63 = .ok (.aload_n 0, 1) := by decide +kernel
theorem dX4_keep_64 : decode cX4_keep 64 = .ok (.getfield 27, 3) := by decide +kernel
theorem dX4_keep_67 : decode cX4_keep 67 = .ok (.iconst 1, 1) := by decide +kernel
theorem dX4_keep_68 : decode cX4_keep 68 = .ok (.isub, 1) := by decide +kernel
theorem dX4_keep_69 : decode cX4_keep 69 = .ok (.ireturn, 1) := by decide +kernel
theorem dX4_oneHolds_0 : decode cX4_oneHolds 0 = .ok (.aload_n 0, 1) := by decide +kernel
theorem dX4_oneHolds_1 : decode cX4_oneHolds 1 = .ok (.getfield 23, 3) := by decide +kernel
theorem dX4_oneHolds_4 : decode cX4_oneHolds 4 = .ok (.ifCond .lt 18, 3) := by decide +kernel
theorem dX4_oneHolds_7 : decode cX4_oneHolds 7 = .ok (.aload_n 0, 1) := by decide +kernel
theorem dX4_oneHolds_8 : decode cX4_oneHolds 8 = .ok (.getfield 23, 3) := by decide +kernel
theorem dX4_oneHolds_11 : decode cX4_oneHolds 11 = .ok (.aload_n 0, 1) := by decide +kernel
theorem dX4_oneHolds_12 : decode cX4_oneHolds 12 = .ok (.getfield 27, 3) := by decide +kernel
theorem dX4_oneHolds_15 : decode cX4_oneHolds 15 = .ok (.if_icmp .ge 7, 3) := by decide +kernel
theorem dX4_oneHolds_18 : decode cX4_oneHolds 18 = .ok (.iconst 1, 1) := by decide +kernel
theorem dX4_oneHolds_19 : decode cX4_oneHolds 19 = .ok (.goto 4, 3) := by decide +kernel
theorem dX4_oneHolds_22 : decode cX4_oneHolds 22 = .ok (.iconst 0, 1) := by decide +kernel
theorem dX4_oneHolds_23 : decode cX4_oneHolds 23 = .ok (.ireturn, 1) := by decide +kernel
theorem dX4_worth_0 : decode cX4_worth 0 = .ok (.aload_n 0, 1) := by decide +kernel
theorem dX4_worth_1 : decode cX4_worth 1 = .ok (.invokevirtual 36, 3) := by decide +kernel
theorem dX4_worth_4 : decode cX4_worth 4 = .ok (.ifCond .ne 5, 3) := by decide +kernel
theorem dX4_worth_7 : decode cX4_worth 7 = .ok (.iconst 0, 1) := by decide +kernel
theorem dX4_worth_8 : decode cX4_worth 8 = .ok (.ireturn, 1) := by decide +kernel
theorem dX4_worth_9 : decode cX4_worth 9 = .ok (.aload_n 0, 1) := by decide +kernel
theorem dX4_worth_10 : decode cX4_worth 10 = .ok (.getfield 11, 3) := by decide +kernel
theorem dX4_worth_13 : decode cX4_worth 13 = .ok (.aload_n 0, 1) := by decide +kernel
theorem dX4_worth_14 : decode cX4_worth 14 = .ok (.getfield 23, 3) := by decide +kernel
theorem dX4_worth_17 : decode cX4_worth 17 = .ok (.aaload, 1) := by decide +kernel
theorem dX4_worth_18 : decode cX4_worth 18 = .ok (.astore_n 2, 1) := by decide +kernel
theorem dX4_worth_19 : decode cX4_worth 19 = .ok (.aload_n 0, 1) := by decide +kernel
theorem dX4_worth_20 : decode cX4_worth 20 = .ok (.iconst 0, 1) := by decide +kernel
theorem dX4_worth_21 : decode cX4_worth 21 = .ok (.putfield 40, 3) := by decide +kernel
theorem dX4_worth_24 : decode cX4_worth 24 = .ok (.iconst 0, 1) := by decide +kernel
theorem dX4_worth_25 : decode cX4_worth 25 = .ok (.istore_n 3, 1) := by decide +kernel
theorem dX4_worth_26 : decode cX4_worth 26 = .ok (.iconst 0, 1) := by decide +kernel
theorem dX4_worth_27 : decode cX4_worth 27 = .ok (.istore 4, 2) := by decide +kernel
theorem dX4_worth_29 : decode cX4_worth 29 = .ok (.iload 4, 2) := by decide +kernel
theorem dX4_worth_31 : decode cX4_worth 31 = .ok (.aload_n 0, 1) := by decide +kernel
theorem dX4_worth_32 : decode cX4_worth 32 = .ok (.getfield 16, 3) := by decide +kernel
theorem dX4_worth_35 : decode cX4_worth 35 = .ok (.aload_n 0, 1) := by decide +kernel
theorem dX4_worth_36 : decode cX4_worth 36 = .ok (.getfield 23, 3) := by decide +kernel
theorem dX4_worth_39 : decode cX4_worth 39 = .ok (.iaload, 1) := by decide +kernel
theorem dX4_worth_40 : decode cX4_worth 40 = .ok (.if_icmp .ge 169, 3) := by decide +kernel
theorem dX4_worth_43 : decode cX4_worth 43 = .ok (.iload 4, 2) := by decide +kernel
theorem dX4_worth_45 : decode cX4_worth 45 = .ok (.aload_n 2, 1) := by decide +kernel
theorem dX4_worth_46 : decode cX4_worth 46 = .ok (.arraylength, 1) := by decide +kernel
theorem dX4_worth_47 : decode cX4_worth 47 = .ok (.if_icmp .ge 162, 3) := by decide +kernel
theorem dX4_worth_50 : decode cX4_worth 50 = .ok (.aload_n 2, 1) := by decide +kernel
theorem dX4_worth_51 : decode cX4_worth 51 = .ok (.iload 4, 2) := by decide +kernel
theorem dX4_worth_53 : decode cX4_worth 53 = .ok (.iaload, 1) := by decide +kernel
theorem dX4_worth_54 : decode cX4_worth 54 = .ok (.istore 5, 2) := by decide +kernel
theorem dX4_worth_56 : decode cX4_worth 56 = .ok (.iload_n 3, 1) := by decide +kernel
theorem dX4_worth_57 : decode cX4_worth 57 = .ok (.ifCond .eq 20, 3) := by decide +kernel
theorem dX4_worth_60 : decode cX4_worth 60 = .ok (.iload 5, 2) := by decide +kernel
theorem dX4_worth_62 : decode cX4_worth 62 = .ok (.sipush 20059, 3) := by decide +kernel
theorem dX4_worth_65 : decode cX4_worth 65 = .ok (.if_icmp .eq 7, 3) := by decide +kernel
theorem dX4_worth_68 : decode cX4_worth 68 = .ok (.iconst 1, 1) := by decide +kernel
theorem dX4_worth_69 : decode cX4_worth 69 = .ok (.goto 4, 3) := by decide +kernel
theorem dX4_worth_72 : decode cX4_worth 72 = .ok (.iconst 0, 1) := by decide +kernel
theorem dX4_worth_73 : decode cX4_worth 73 = .ok (.istore_n 3, 1) := by decide +kernel
theorem dX4_worth_74 : decode cX4_worth 74 = .ok (.goto 129, 3) := by decide +kernel
theorem dX4_worth_77 : decode cX4_worth 77 = .ok (.iload 5, 2) := by decide +kernel
theorem dX4_worth_79 : decode cX4_worth 79 = .ok (.sipush 10000, 3) := by decide +kernel
theorem dX4_worth_82 : decode cX4_worth 82 = .ok (.if_icmp .ge 12, 3) := by decide +kernel
theorem dX4_worth_85 : decode cX4_worth 85 = .ok (.aload_n 0, 1) := by decide +kernel
theorem dX4_worth_86 : decode cX4_worth 86 = .ok (.iload 5, 2) := by decide +kernel
theorem dX4_worth_88 : decode cX4_worth 88 = .ok (.invokevirtual 43, 3) := by decide +kernel
theorem dX4_worth_91 : decode cX4_worth 91 = .ok (.goto 112, 3) := by decide +kernel
theorem dX4_worth_94 : decode cX4_worth 94 = .ok (.iload 5, 2) := by decide +kernel
theorem dX4_worth_96 : decode cX4_worth 96 = .ok (.sipush 10000, 3) := by decide +kernel
theorem dX4_worth_99 : decode cX4_worth 99 = .ok (.isub, 1) := by decide +kernel
theorem dX4_worth_100 : decode cX4_worth 100 = .ok (.aload_n 1, 1) := by decide +kernel
theorem dX4_worth_101 : decode cX4_worth 101 = .ok (.arraylength, 1) := by decide +kernel
theorem dX4_worth_102 : decode cX4_worth 102 = .ok (.if_icmp .ge 18, 3) := by decide +kernel
theorem dX4_worth_105 : decode cX4_worth 105 = .ok (.aload_n 0, 1) := by decide +kernel
theorem dX4_worth_106 : decode cX4_worth 106 = .ok (.aload_n 1, 1) := by decide +kernel
theorem dX4_worth_107 : decode cX4_worth 107 = .ok (.iload 5, 2) := by decide +kernel
theorem dX4_worth_109 : decode cX4_worth 109 = .ok (.sipush 10000, 3) := by decide +kernel
theorem dX4_worth_112 : decode cX4_worth 112 = .ok (.isub, 1) := by decide +kernel
theorem dX4_worth_113 : decode cX4_worth 113 = .ok (.iaload, 1) := by decide +kernel
theorem dX4_worth_114 : decode cX4_worth 114 = .ok (.invokevirtual 43, 3) := by decide +kernel
theorem dX4_worth_117 : decode cX4_worth 117 = .ok (.goto 86, 3) := by decide +kernel
theorem dX4_worth_120 : decode cX4_worth 120 = .ok (.iload 5, 2) := by decide +kernel
theorem dX4_worth_122 : decode cX4_worth 122 = .ok (.sipush 20059, 3) := by decide +kernel
theorem dX4_worth_125 : decode cX4_worth 125 = .ok (.if_icmp .ne 8, 3) := by decide +kernel
theorem dX4_worth_128 : decode cX4_worth 128 = .ok (.aload_n 0, 1) := by decide +kernel
theorem dX4_worth_129 : decode cX4_worth 129 = .ok (.invokevirtual 47, 3) := by decide +kernel
theorem dX4_worth_132 : decode cX4_worth 132 = .ok (.ireturn, 1) := by decide +kernel
theorem dX4_worth_133 : decode cX4_worth 133 = .ok (.iload 5, 2) := by decide +kernel
theorem dX4_worth_135 : decode cX4_worth 135 = .ok (.sipush 20063, 3) := by decide +kernel
theorem dX4_worth_138 : decode cX4_worth 138 = .ok (.if_icmp .ne 19, 3) := by decide +kernel
theorem dX4_worth_141 : decode cX4_worth 141 = .ok (.aload_n 0, 1) := by decide +kernel
theorem dX4_worth_142 : decode cX4_worth 142 = .ok (.invokevirtual 47, 3) := by decide +kernel
theorem dX4_worth_145 : decode cX4_worth 145 = .ok (.ifCond .ne 7, 3) := by decide +kernel
theorem dX4_worth_148 : decode cX4_worth 148 = .ok (.iconst 1, 1) := by decide +kernel
theorem dX4_worth_149 : decode cX4_worth 149 = .ok (.goto 4, 3) := by decide +kernel
theorem dX4_worth_152 : decode cX4_worth 152 = .ok (.iconst 0, 1) := by decide +kernel
theorem dX4_worth_153 : decode cX4_worth 153 = .ok (.istore_n 3, 1) := by decide +kernel
theorem dX4_worth_154 : decode cX4_worth 154 = .ok (.goto 49, 3) := by decide +kernel
theorem dX4_worth_157 : decode cX4_worth 157 = .ok (.iload 5, 2) := by decide +kernel
theorem dX4_worth_159 : decode cX4_worth 159 = .ok (.sipush 20033, 3) := by decide +kernel
theorem dX4_worth_162 : decode cX4_worth 162 = .ok (.if_icmp .ne 16, 3) := by decide +kernel
theorem dX4_worth_165 : decode cX4_worth 165 = .ok (.aload_n 0, 1) := by decide +kernel
theorem dX4_worth_166 : decode cX4_worth 166 = .ok (.iconst 1, 1) := by decide +kernel
theorem dX4_worth_167 : decode cX4_worth 167 = .ok (.aload_n 0, 1) := by decide +kernel
theorem dX4_worth_168 : decode cX4_worth 168 = .ok (.invokevirtual 47, 3) := by decide +kernel
theorem dX4_worth_171 : decode cX4_worth 171 = .ok (.isub, 1) := by decide +kernel
theorem dX4_worth_172 : decode cX4_worth 172 = .ok (.invokevirtual 43, 3) := by decide +kernel
theorem dX4_worth_175 : decode cX4_worth 175 = .ok (.goto 28, 3) := by decide +kernel
theorem dX4_worth_178 : decode cX4_worth 178 = .ok (.aload_n 0, 1) := by decide +kernel
theorem dX4_worth_179 : decode cX4_worth 179 = .ok (.invokevirtual 47, 3) := by decide +kernel
theorem dX4_worth_182 : decode cX4_worth 182 = .ok (.istore 6, 2) := by decide +kernel
theorem dX4_worth_184 : decode cX4_worth 184 = .ok (.aload_n 0, 1) := by decide +kernel
theorem dX4_worth_185 : decode cX4_worth 185 = .ok (.iload 5, 2) := by decide +kernel
theorem dX4_worth_187 : decode cX4_worth 187 = .ok (.sipush 20000, 3) := by decide +kernel
theorem dX4_worth_190 : decode cX4_worth 190 = .ok (.isub, 1) := by decide +kernel
theorem dX4_worth_191 : decode cX4_worth 191 = .ok (.aload_n 0, 1) := by decide +kernel
theorem dX4_worth_192 : decode cX4_worth 192 = .ok (.invokevirtual 47, 3) := by decide +kernel
theorem dX4_worth_195 : decode cX4_worth 195 = .ok (.iload 6, 2) := by decide +kernel
theorem dX4_worth_197 : decode cX4_worth 197 = .ok (.invokestatic 51, 3) := by decide +kernel
theorem dX4_worth_200 : decode cX4_worth 200 = .ok (.invokevirtual 43, 3) := by decide +kernel
theorem dX4_worth_203 : decode cX4_worth 203 = .ok (.iinc 4 1, 3) := by decide +kernel
theorem dX4_worth_206 : decode cX4_worth 206 = .ok (.goto (-177), 3) := by decide +kernel
theorem dX4_worth_209 : decode cX4_worth 209 = .ok (.iconst 0, 1) := by decide +kernel
theorem dX4_worth_210 : decode cX4_worth 210 = .ok (.ireturn, 1) := by decide +kernel
theorem dX4_push_0 : decode cX4_push 0 = .ok (.aload_n 0, 1) := by decide +kernel
theorem dX4_push_1 : decode cX4_push 1 = .ok (.getfield 40, 3) := by decide +kernel
theorem dX4_push_4 : decode cX4_push 4 = .ok (.aload_n 0, 1) := by decide +kernel
theorem dX4_push_5 : decode cX4_push 5 = .ok (.getfield 20, 3) := by decide +kernel
theorem dX4_push_8 : decode cX4_push 8 = .ok (.arraylength, 1) := by decide +kernel
theorem dX4_push_9 : decode cX4_push 9 = .ok (.if_icmp .ge 23, 3) := by decide +kernel
theorem dX4_push_12 : decode cX4_push 12 = .ok (.aload_n 0, 1) := by decide +kernel
theorem dX4_push_13 : decode cX4_push 13 = .ok (.getfield 20, 3) := by decide +kernel
theorem dX4_push_16 : decode cX4_push 16 = .ok (.aload_n 0, 1) := by decide +kernel
theorem dX4_push_17 : decode cX4_push 17 = .ok (.getfield 40, 3) := by decide +kernel
theorem dX4_push_20 : decode cX4_push 20 = .ok (.iload_n 1, 1) := by decide +kernel
theorem dX4_push_21 : decode cX4_push 21 = .ok (.iastore, 1) := by decide +kernel
theorem dX4_push_22 : decode cX4_push 22 = .ok (.aload_n 0, 1) := by decide +kernel
theorem dX4_push_23 : decode cX4_push 23 = .ok (.dup, 1) := by decide +kernel
theorem dX4_push_24 : decode cX4_push 24 = .ok (.getfield 40, 3) := by decide +kernel
theorem dX4_push_27 : decode cX4_push 27 = .ok (.iconst 1, 1) := by decide +kernel
theorem dX4_push_28 : decode cX4_push 28 = .ok (.iadd, 1) := by decide +kernel
theorem dX4_push_29 : decode cX4_push 29 = .ok (.putfield 40, 3) := by decide +kernel
theorem dX4_push_32 : decode cX4_push 32 = .ok (.return_, 1) := by decide +kernel
theorem dX4_pop_0 : decode cX4_pop 0 = .ok (.aload_n 0, 1) := by decide +kernel
theorem dX4_pop_1 : decode cX4_pop 1 = .ok (.getfield 40, 3) := by decide +kernel
theorem dX4_pop_4 : decode cX4_pop 4 = .ok (.ifCond .gt 5, 3) := by decide +kernel
theorem dX4_pop_7 : decode cX4_pop 7 = .ok (.iconst 0, 1) := by decide +kernel
theorem dX4_pop_8 : decode cX4_pop 8 = .ok (.ireturn, 1) := by decide +kernel
theorem dX4_pop_9 : decode cX4_pop 9 = .ok (.aload_n 0, 1) := by decide +kernel
theorem dX4_pop_10 : decode cX4_pop 10 = .ok (.dup, 1) := by decide +kernel
theorem dX4_pop_11 : decode cX4_pop 11 = .ok (.getfield 40, 3) := by decide +kernel
theorem dX4_pop_14 : decode cX4_pop 14 = .ok (.iconst 1, 1) := by decide +kernel
theorem dX4_pop_15 : decode cX4_pop 15 = .ok (.isub, 1) := by decide +kernel
theorem dX4_pop_16 : decode cX4_pop 16 = .ok (.putfield 40, 3) := by decide +kernel
theorem dX4_pop_19 : decode cX4_pop 19 = .ok (.aload_n 0, 1) := by decide +kernel
theorem dX4_pop_20 : decode cX4_pop 20 = .ok (.getfield 20, 3) := by decide +kernel
theorem dX4_pop_23 : decode cX4_pop 23 = .ok (.aload_n 0, 1) := by decide +kernel
theorem dX4_pop_24 : decode cX4_pop 24 = .ok (.getfield 40, 3) := by decide +kernel
theorem dX4_pop_27 : decode cX4_pop 27 = .ok (.iaload, 1) := by decide +kernel
theorem dX4_pop_28 : decode cX4_pop 28 = .ok (.ireturn, 1) := by decide +kernel
theorem dX4_join_0 : decode cX4_join 0 = .ok (.iload_n 0, 1) := by decide +kernel
theorem dX4_join_1 : decode cX4_join 1 = .ok (.tableswitch 191 38 62 #[187, 191, 191, 191, 133, 115, 191, 124, 191, 142, 191, 191, 191, 191, 191, 191, 191, 191, 191, 191, 191, 191, 165, 154, 176], 115) := by decide +kernel
theorem dX4_join_116 : decode cX4_join 116 = .ok (.iload_n 1, 1) := by decide +kernel
theorem dX4_join_117 : decode cX4_join 117 = .ok (.i2l, 1) := by decide +kernel
theorem dX4_join_118 : decode cX4_join 118 = .ok (.iload_n 2, 1) := by decide +kernel
theorem dX4_join_119 : decode cX4_join 119 = .ok (.i2l, 1) := by decide +kernel
theorem dX4_join_120 : decode cX4_join 120 = .ok (.ladd, 1) := by decide +kernel
theorem dX4_join_121 : decode cX4_join 121 = .ok (.invokestatic 55, 3) := by decide +kernel
theorem dX4_join_124 : decode cX4_join 124 = .ok (.ireturn, 1) := by decide +kernel
theorem dX4_join_125 : decode cX4_join 125 = .ok (.iload_n 1, 1) := by decide +kernel
theorem dX4_join_126 : decode cX4_join 126 = .ok (.i2l, 1) := by decide +kernel
theorem dX4_join_127 : decode cX4_join 127 = .ok (.iload_n 2, 1) := by decide +kernel
theorem dX4_join_128 : decode cX4_join 128 = .ok (.i2l, 1) := by decide +kernel
theorem dX4_join_129 : decode cX4_join 129 = .ok (.lsub, 1) := by decide +kernel
theorem dX4_join_130 : decode cX4_join 130 = .ok (.invokestatic 55, 3) := by decide +kernel
theorem dX4_join_133 : decode cX4_join 133 = .ok (.ireturn, 1) := by decide +kernel
theorem dX4_join_134 : decode cX4_join 134 = .ok (.iload_n 1, 1) := by decide +kernel
theorem dX4_join_135 : decode cX4_join 135 = .ok (.i2l, 1) := by decide +kernel
theorem dX4_join_136 : decode cX4_join 136 = .ok (.iload_n 2, 1) := by decide +kernel
theorem dX4_join_137 : decode cX4_join 137 = .ok (.i2l, 1) := by decide +kernel
theorem dX4_join_138 : decode cX4_join 138 = .ok (.lmul, 1) := by decide +kernel
theorem dX4_join_139 : decode cX4_join 139 = .ok (.invokestatic 55, 3) := by decide +kernel
theorem dX4_join_142 : decode cX4_join 142 = .ok (.ireturn, 1) := by decide +kernel
theorem dX4_join_143 : decode cX4_join 143 = .ok (.iload_n 2, 1) := by decide +kernel
theorem dX4_join_144 : decode cX4_join 144 = .ok (.ifCond .ne 7, 3) := by decide +kernel
theorem dX4_join_147 : decode cX4_join 147 = .ok (.iconst 0, 1) := by decide +kernel
theorem dX4_join_148 : decode cX4_join 148 = .ok (.goto 6, 3) := by decide +kernel
theorem dX4_join_151 : decode cX4_join 151 = .ok (.iload_n 1, 1) := by decide +kernel
theorem dX4_join_152 : decode cX4_join 152 = .ok (.iload_n 2, 1) := by decide +kernel
theorem dX4_join_153 : decode cX4_join 153 = .ok (.idiv, 1) := by decide +kernel
theorem dX4_join_154 : decode cX4_join 154 = .ok (.ireturn, 1) := by decide +kernel
theorem dX4_join_155 : decode cX4_join 155 = .ok (.iload_n 1, 1) := by decide +kernel
theorem dX4_join_156 : decode cX4_join 156 = .ok (.iload_n 2, 1) := by decide +kernel
theorem dX4_join_157 : decode cX4_join 157 = .ok (.if_icmp .ne 7, 3) := by decide +kernel
theorem dX4_join_160 : decode cX4_join 160 = .ok (.iconst 1, 1) := by decide +kernel
theorem dX4_join_161 : decode cX4_join 161 = .ok (.goto 4, 3) := by decide +kernel
theorem dX4_join_164 : decode cX4_join 164 = .ok (.iconst 0, 1) := by decide +kernel
theorem dX4_join_165 : decode cX4_join 165 = .ok (.ireturn, 1) := by decide +kernel
theorem dX4_join_166 : decode cX4_join 166 = .ok (.iload_n 1, 1) := by decide +kernel
theorem dX4_join_167 : decode cX4_join 167 = .ok (.iload_n 2, 1) := by decide +kernel
theorem dX4_join_168 : decode cX4_join 168 = .ok (.if_icmp .ge 7, 3) := by decide +kernel
theorem dX4_join_171 : decode cX4_join 171 = .ok (.iconst 1, 1) := by decide +kernel
theorem dX4_join_172 : decode cX4_join 172 = .ok (.goto 4, 3) := by decide +kernel
theorem dX4_join_175 : decode cX4_join 175 = .ok (.iconst 0, 1) := by decide +kernel
theorem dX4_join_176 : decode cX4_join 176 = .ok (.ireturn, 1) := by decide +kernel
theorem dX4_join_177 : decode cX4_join 177 = .ok (.iload_n 1, 1) := by decide +kernel
theorem dX4_join_178 : decode cX4_join 178 = .ok (.iload_n 2, 1) := by decide +kernel
theorem dX4_join_179 : decode cX4_join 179 = .ok (.if_icmp .le 7, 3) := by decide +kernel
theorem dX4_join_182 : decode cX4_join 182 = .ok (.iconst 1, 1) := by decide +kernel
theorem dX4_join_183 : decode cX4_join 183 = .ok (.goto 4, 3) := by decide +kernel
theorem dX4_join_186 : decode cX4_join 186 = .ok (.iconst 0, 1) := by decide +kernel
theorem dX4_join_187 : decode cX4_join 187 = .ok (.ireturn, 1) := by decide +kernel
theorem dX4_join_188 : decode cX4_join 188 = .ok (.iload_n 1, 1) := by decide +kernel
theorem dX4_join_189 : decode cX4_join 189 = .ok (.iload_n 2, 1) := by decide +kernel
theorem dX4_join_190 : decode cX4_join 190 = .ok (.iand, 1) := by decide +kernel
theorem dX4_join_191 : decode cX4_join 191 = .ok (.ireturn, 1) := by decide +kernel
theorem dX4_join_192 : decode cX4_join 192 = .ok (.iload_n 1, 1) := by decide +kernel
theorem dX4_join_193 : decode cX4_join 193 = .ok (.iload_n 2, 1) := by decide +kernel
theorem dX4_join_194 : decode cX4_join 194 = .ok (.ior, 1) := by decide +kernel
theorem dX4_join_195 : decode cX4_join 195 = .ok (.ireturn, 1) := by decide +kernel
theorem dX4_hold_0 : decode cX4_hold 0 = .ok (.lload_n 0, 1) := by decide +kernel
theorem dX4_hold_1 : decode cX4_hold 1 = .ok (.ldc2_w 59, 3) := by decide +kernel
theorem dX4_hold_4 : decode cX4_hold 4 = .ok (.lcmp, 1) := by decide +kernel
theorem dX4_hold_5 : decode cX4_hold 5 = .ok (.ifCond .le 6, 3) := by decide +kernel
theorem dX4_hold_8 : decode cX4_hold 8 = .ok (.ldc 61, 2) := by decide +kernel
theorem dX4_hold_10 : decode cX4_hold 10 = .ok (.ireturn, 1) := by decide +kernel
theorem dX4_hold_11 : decode cX4_hold 11 = .ok (.lload_n 0, 1) := by decide +kernel
theorem dX4_hold_12 : decode cX4_hold 12 = .ok (.ldc2_w 62, 3) := by decide +kernel
theorem dX4_hold_15 : decode cX4_hold 15 = .ok (.lcmp, 1) := by decide +kernel
theorem dX4_hold_16 : decode cX4_hold 16 = .ok (.ifCond .ge 8, 3) := by decide +kernel
theorem dX4_hold_19 : decode cX4_hold 19 = .ok (.ldc 64, 2) := by decide +kernel
theorem dX4_hold_21 : decode cX4_hold 21 = .ok (.goto 5, 3) := by decide +kernel
theorem dX4_hold_24 : decode cX4_hold 24 = .ok (.lload_n 0, 1) := by decide +kernel
theorem dX4_hold_25 : decode cX4_hold 25 = .ok (.l2i, 1) := by decide +kernel
theorem dX4_hold_26 : decode cX4_hold 26 = .ok (.ireturn, 1) := by decide +kernel
theorem dX10_init_0 : decode cX10_init 0 = .ok (.aload_n 0, 1) := by decide +kernel
theorem dX10_init_1 : decode cX10_init 1 = .ok (.invokespecial 3, 3) := by decide +kernel
theorem dX10_init_4 : decode cX10_init 4 = .ok (.aload_n 0, 1) := by decide +kernel
theorem dX10_init_5 : decode cX10_init 5 = .ok (.iconst 4, 1) := by decide +kernel
theorem dX10_init_6 : decode cX10_init 6 = .ok (.bipush 12, 2) := by decide +kernel
theorem dX10_init_8 : decode cX10_init 8 = .ok (.multianewarray 9 2, 4) := by decide +kernel
theorem dX10_init_12 : decode cX10_init 12 = .ok (.putfield 11, 3) := by decide +kernel
theorem dX10_init_15 : decode cX10_init 15 = .ok (.aload_n 0, 1) := by decide +kernel
theorem dX10_init_16 : decode cX10_init 16 = .ok (.iconst 4, 1) := by decide +kernel
theorem dX10_init_17 : decode cX10_init 17 = .ok (.newarray .int, 2) := by decide +kernel
theorem dX10_init_19 : decode cX10_init 19 = .ok (.putfield 16, 3) := by decide +kernel
theorem dX10_init_22 : decode cX10_init 22 = .ok (.aload_n 0, 1) := by decide +kernel
theorem dX10_init_23 : decode cX10_init 23 = .ok (.bipush 12, 2) := by decide +kernel
theorem dX10_init_25 : decode cX10_init 25 = .ok (.newarray .int, 2) := by decide +kernel
theorem dX10_init_27 : decode cX10_init 27 = .ok (.putfield 20, 3) := by decide +kernel
theorem dX10_init_30 : decode cX10_init 30 = .ok (.return_, 1) := by decide +kernel
theorem dX10_readFrom_0 : decode cX10_readFrom 0 = .ok (.aload_n 1, 1) := by decide +kernel
theorem dX10_readFrom_1 : decode cX10_readFrom 1 = .ok (.iconst 0, 1) := by decide +kernel
theorem dX10_readFrom_2 : decode cX10_readFrom 2 = .ok (.putfield 23, 3) := by decide +kernel
theorem dX10_readFrom_5 : decode cX10_readFrom 5 = .ok (.aload_n 0, 1) := by decide +kernel
theorem dX10_readFrom_6 : decode cX10_readFrom 6 = .ok (.iconst 0, 1) := by decide +kernel
theorem dX10_readFrom_7 : decode cX10_readFrom 7 = .ok (.putfield 29, 3) := by decide +kernel
theorem dX10_readFrom_10 : decode cX10_readFrom 10 = .ok (.iconst 0, 1) := by decide +kernel
theorem dX10_readFrom_11 : decode cX10_readFrom 11 = .ok (.istore_n 2, 1) := by decide +kernel
theorem dX10_readFrom_12 : decode cX10_readFrom 12 = .ok (.iload_n 2, 1) := by decide +kernel
theorem dX10_readFrom_13 : decode cX10_readFrom 13 = .ok (.sipush 240, 3) := by decide +kernel
theorem dX10_readFrom_16 : decode cX10_readFrom 16 = .ok (.if_icmp .ge 84, 3) := by decide +kernel
theorem dX10_readFrom_19 : decode cX10_readFrom 19 = .ok (.aload_n 1, 1) := by decide +kernel
theorem dX10_readFrom_20 : decode cX10_readFrom 20 = .ok (.invokevirtual 32, 3) := by decide +kernel
theorem dX10_readFrom_23 : decode cX10_readFrom 23 = .ok (.istore_n 3, 1) := by decide +kernel
theorem dX10_readFrom_24 : decode cX10_readFrom 24 = .ok (.iload_n 3, 1) := by decide +kernel
theorem dX10_readFrom_25 : decode cX10_readFrom 25 = .ok (.iconst (-1), 1) := by decide +kernel
theorem dX10_readFrom_26 : decode cX10_readFrom 26 = .ok (.if_icmp .ne 17, 3) := by decide +kernel
theorem dX10_readFrom_29 : decode cX10_readFrom 29 = .ok (.aload_n 0, 1) := by decide +kernel
theorem dX10_readFrom_30 : decode cX10_readFrom 30 = .ok (.getfield 29, 3) := by decide +kernel
theorem dX10_readFrom_33 : decode cX10_readFrom 33 = .ok (.iconst 2, 1) := by decide +kernel
theorem dX10_readFrom_34 : decode cX10_readFrom 34 = .ok (.if_icmp .lt 7, 3) := by decide +kernel
theorem dX10_readFrom_37 : decode cX10_readFrom 37 = .ok (.iconst 1, 1) := by decide +kernel
theorem dX10_readFrom_38 : decode cX10_readFrom 38 = .ok (.goto 4, 3) := by decide +kernel
theorem dX10_readFrom_41 : decode cX10_readFrom 41 = .ok (.iconst 0, 1) := by decide +kernel
theorem dX10_readFrom_42 : decode cX10_readFrom 42 = .ok (.ireturn, 1) := by decide +kernel
theorem dX10_readFrom_43 : decode cX10_readFrom 43 = .ok (.iload_n 3, 1) := by decide +kernel
theorem dX10_readFrom_44 : decode cX10_readFrom 44 = .ok (.invokestatic 36, 3) := by decide +kernel
theorem dX10_readFrom_47 : decode cX10_readFrom 47 = .ok (.ifCond .eq 12, 3) := by decide +kernel
theorem dX10_readFrom_50 : decode cX10_readFrom 50 = .ok (.aload_n 0, 1) := by decide +kernel
theorem dX10_readFrom_51 : decode cX10_readFrom 51 = .ok (.getfield 29, 3) := by decide +kernel
theorem dX10_readFrom_54 : decode cX10_readFrom 54 = .ok (.bipush 12, 2) := by decide +kernel
theorem dX10_readFrom_56 : decode cX10_readFrom 56 = .ok (.if_icmp .lt 5, 3) := by decide +kernel
theorem dX10_readFrom_59 : decode cX10_readFrom 59 = .ok (.iconst 0, 1) := by decide +kernel
theorem dX10_readFrom_60 : decode cX10_readFrom 60 = .ok (.ireturn, 1) := by decide +kernel
theorem dX10_readFrom_61 : decode cX10_readFrom 61 = .ok (.aload_n 0, 1) := by decide +kernel
theorem dX10_readFrom_62 : decode cX10_readFrom 62 = .ok (.getfield 20, 3) := by decide +kernel
theorem dX10_readFrom_65 : decode cX10_readFrom 65 = .ok (.aload_n 0, 1) := by decide +kernel
theorem dX10_readFrom_66 : decode cX10_readFrom 66 = .ok (.getfield 29, 3) := by decide +kernel
theorem dX10_readFrom_69 : decode cX10_readFrom 69 = .ok (.iload_n 3, 1) := by decide +kernel
theorem dX10_readFrom_70 : decode cX10_readFrom 70 = .ok (.bipush 48, 2) := by decide +kernel
theorem dX10_readFrom_72 : decode cX10_readFrom 72 = .ok (.isub, 1) := by decide +kernel
theorem dX10_readFrom_73 : decode cX10_readFrom 73 = .ok (.iastore, 1) := by decide +kernel
theorem dX10_readFrom_74 : decode cX10_readFrom 74 = .ok (.aload_n 0, 1) := by decide +kernel
theorem dX10_readFrom_75 : decode cX10_readFrom 75 = .ok (.dup, 1) := by decide +kernel
theorem dX10_readFrom_76 : decode cX10_readFrom 76 = .ok (.getfield 29, 3) := by decide +kernel
theorem dX10_readFrom_79 : decode cX10_readFrom 79 = .ok (.iconst 1, 1) := by decide +kernel
theorem dX10_readFrom_80 : decode cX10_readFrom 80 = .ok (.iadd, 1) := by decide +kernel
theorem dX10_readFrom_81 : decode cX10_readFrom 81 = .ok (.putfield 29, 3) := by decide +kernel
theorem dX10_readFrom_84 : decode cX10_readFrom 84 = .ok (.aload_n 1, 1) := by decide +kernel
theorem dX10_readFrom_85 : decode cX10_readFrom 85 = .ok (.dup, 1) := by decide +kernel
theorem dX10_readFrom_86 : decode cX10_readFrom 86 = .ok (.getfield 23, 3) := by decide +kernel
theorem dX10_readFrom_89 : decode cX10_readFrom 89 = .ok (.iconst 1, 1) := by decide +kernel
theorem dX10_readFrom_90 : decode cX10_readFrom 90 = .ok (.iadd, 1) := by decide +kernel
theorem dX10_readFrom_91 : decode cX10_readFrom 91 = .ok (.putfield 23, 3) := by decide +kernel
theorem dX10_readFrom_94 : decode cX10_readFrom 94 = .ok (.iinc 2 1, 3) := by decide +kernel
theorem dX10_readFrom_97 : decode cX10_readFrom 97 = .ok (.goto (-85), 3) := by decide +kernel
theorem dX10_readFrom_100 : decode cX10_readFrom 100 = .ok (.iconst 0, 1) := by decide +kernel
theorem dX10_readFrom_101 : decode cX10_readFrom 101 = .ok (.ireturn, 1) := by decide +kernel
theorem dX10_keep_0 : decode cX10_keep 0 = .ok (.aload_n 0, 1) := by decide +kernel
theorem dX10_keep_1 : decode cX10_keep 1 = .ok (.getfield 40, 3) := by decide +kernel
theorem dX10_keep_4 : decode cX10_keep 4 = .ok (.iconst 4, 1) := by decide +kernel
theorem dX10_keep_5 : decode cX10_keep 5 = .ok (.if_icmp .lt 5, 3) := by decide +kernel
theorem dX10_keep_8 : decode cX10_keep 8 = .ok (.iconst (-1), 1) := by decide +kernel
theorem dX10_keep_9 : decode cX10_keep 9 = .ok (.ireturn, 1) := by decide +kernel
theorem dX10_keep_10 : decode cX10_keep 10 = .ok (.aload_n 0, 1) := by decide +kernel
theorem dX10_keep_11 : decode cX10_keep 11 = .ok (.getfield 20, 3) := by decide +kernel
theorem dX10_keep_14 : decode cX10_keep 14 = .ok (.iconst 0, 1) := by decide +kernel
theorem dX10_keep_15 : decode cX10_keep 15 = .ok (.aload_n 0, 1) := by decide +kernel
theorem dX10_keep_16 : decode cX10_keep 16 = .ok (.getfield 11, 3) := by decide +kernel
theorem dX10_keep_19 : decode cX10_keep 19 = .ok (.aload_n 0, 1) := by decide +kernel
theorem dX10_keep_20 : decode cX10_keep 20 = .ok (.getfield 40, 3) := by decide +kernel
theorem dX10_keep_23 : decode cX10_keep 23 = .ok (.aaload, 1) := by decide +kernel
theorem dX10_keep_24 : decode cX10_keep 24 = .ok (.iconst 0, 1) := by decide +kernel
theorem dX10_keep_25 : decode cX10_keep 25 = .ok (.bipush 12, 2) := by decide +kernel
theorem dX10_keep_27 : decode cX10_keep 27 = .ok (.invokestatic 43, 3) := by decide +kernel
theorem dX10_keep_30 : decode cX10_keep 30 = .ok (.aload_n 0, 1) := by decide +kernel
theorem dX10_keep_31 : decode cX10_keep 31 = .ok (.getfield 16, 3) := by decide +kernel
theorem dX10_keep_34 : decode cX10_keep 34 = .ok (.aload_n 0, 1) := by decide +kernel
theorem dX10_keep_35 : decode cX10_keep 35 = .ok (.getfield 40, 3) := by decide +kernel
theorem dX10_keep_38 : decode cX10_keep 38 = .ok (.aload_n 0, 1) := by decide +kernel
theorem dX10_keep_39 : decode cX10_keep 39 = .ok (.getfield 29, 3) := by decide +kernel
theorem dX10_keep_42 : decode cX10_keep 42 = .ok (.iastore, 1) := by decide +kernel
theorem dX10_keep_43 : decode cX10_keep 43 = .ok (.aload_n 0, 1) := by decide +kernel
theorem dX10_keep_44 : decode cX10_keep 44 = .ok (.dup, 1) := by decide +kernel
theorem dX10_keep_45 : decode cX10_keep 45 = .ok (.getfield 40, 3) := by decide +kernel
theorem dX10_keep_48 : decode cX10_keep 48 = .ok (.iconst 1, 1) := by decide +kernel
theorem dX10_keep_49 : decode cX10_keep 49 = .ok (.iadd, 1) := by decide +kernel
theorem dX10_keep_50 : decode cX10_keep 50 = .ok (.putfield 40, 3) := by decide +kernel
theorem dX10_keep_53 : decode cX10_keep 53 = .ok (.aload_n 0, 1) := by decide +kernel
theorem dX10_keep_54 : decode cX10_keep 54 = .ok (.getfield 40, 3) := by decide +kernel
theorem dX10_keep_57 : decode cX10_keep 57 = .ok (.iconst 1, 1) := by decide +kernel
theorem dX10_keep_58 : decode cX10_keep 58 = .ok (.isub, 1) := by decide +kernel
theorem dX10_keep_59 : decode cX10_keep 59 = .ok (.ireturn, 1) := by decide +kernel
theorem dX10_has_0 : decode cX10_has 0 = .ok (.iload_n 1, 1) := by decide +kernel
theorem dX10_has_1 : decode cX10_has 1 = .ok (.ifCond .lt 15, 3) := by decide +kernel
theorem dX10_has_4 : decode cX10_has 4 = .ok (.iload_n 1, 1) := by decide +kernel
theorem dX10_has_5 : decode cX10_has 5 = .ok (.aload_n 0, 1) := by decide +kernel
theorem dX10_has_6 : decode cX10_has 6 = .ok (.getfield 40, 3) := by decide +kernel
theorem dX10_has_9 : decode cX10_has 9 = .ok (.if_icmp .ge 7, 3) := by decide +kernel
theorem dX10_has_12 : decode cX10_has 12 = .ok (.iconst 1, 1) := by decide +kernel
theorem dX10_has_13 : decode cX10_has 13 = .ok (.goto 4, 3) := by decide +kernel
theorem dX10_has_16 : decode cX10_has 16 = .ok (.iconst 0, 1) := by decide +kernel
theorem dX10_has_17 : decode cX10_has 17 = .ok (.ireturn, 1) := by decide +kernel
theorem dX10_placeAt_0 : decode cX10_placeAt 0 = .ok (.aload_n 0, 1) := by decide +kernel
theorem dX10_placeAt_1 : decode cX10_placeAt 1 = .ok (.iload_n 1, 1) := by decide +kernel
theorem dX10_placeAt_2 : decode cX10_placeAt 2 = .ok (.invokevirtual 49, 3) := by decide +kernel
theorem dX10_placeAt_5 : decode cX10_placeAt 5 = .ok (.ifCond .eq 28, 3) := by decide +kernel
theorem dX10_placeAt_8 : decode cX10_placeAt 8 = .ok (.iload_n 2, 1) := by decide +kernel
theorem dX10_placeAt_9 : decode cX10_placeAt 9 = .ok (.ifCond .lt 24, 3) := by decide +kernel
theorem dX10_placeAt_12 : decode cX10_placeAt 12 = .ok (.iload_n 2, 1) := by decide +kernel
theorem dX10_placeAt_13 : decode cX10_placeAt 13 = .ok (.aload_n 0, 1) := by decide +kernel
theorem dX10_placeAt_14 : decode cX10_placeAt 14 = .ok (.getfield 16, 3) := by decide +kernel
theorem dX10_placeAt_17 : decode cX10_placeAt 17 = .ok (.iload_n 1, 1) := by decide +kernel
theorem dX10_placeAt_18 : decode cX10_placeAt 18 = .ok (.iaload, 1) := by decide +kernel
theorem dX10_placeAt_19 : decode cX10_placeAt 19 = .ok (.if_icmp .ge 14, 3) := by decide +kernel
theorem dX10_placeAt_22 : decode cX10_placeAt 22 = .ok (.aload_n 0, 1) := by decide +kernel
theorem dX10_placeAt_23 : decode cX10_placeAt 23 = .ok (.getfield 11, 3) := by decide +kernel
theorem dX10_placeAt_26 : decode cX10_placeAt 26 = .ok (.iload_n 1, 1) := by decide +kernel
theorem dX10_placeAt_27 : decode cX10_placeAt 27 = .ok (.aaload, 1) := by decide +kernel
theorem dX10_placeAt_28 : decode cX10_placeAt 28 = .ok (.iload_n 2, 1) := by decide +kernel
theorem dX10_placeAt_29 : decode cX10_placeAt 29 = .ok (.iaload, 1) := by decide +kernel
theorem dX10_placeAt_30 : decode cX10_placeAt 30 = .ok (.goto 4, 3) := by decide +kernel
theorem dX10_placeAt_33 : decode cX10_placeAt 33 = .ok (.iconst (-1), 1) := by decide +kernel
theorem dX10_placeAt_34 : decode cX10_placeAt 34 = .ok (.ireturn, 1) := by decide +kernel
theorem dX6_init_0 : decode cX6_init 0 = .ok (.aload_n 0, 1) := by decide +kernel
theorem dX6_init_1 : decode cX6_init 1 = .ok (.invokespecial 3, 3) := by decide +kernel
theorem dX6_init_4 : decode cX6_init 4 = .ok (.aload_n 0, 1) := by decide +kernel
theorem dX6_init_5 : decode cX6_init 5 = .ok (.bipush 40, 2) := by decide +kernel
theorem dX6_init_7 : decode cX6_init 7 = .ok (.anewarray 9, 3) := by decide +kernel
theorem dX6_init_10 : decode cX6_init 10 = .ok (.putfield 11, 3) := by decide +kernel
theorem dX6_init_13 : decode cX6_init 13 = .ok (.aload_n 0, 1) := by decide +kernel
theorem dX6_init_14 : decode cX6_init 14 = .ok (.sipush 300, 3) := by decide +kernel
theorem dX6_init_17 : decode cX6_init 17 = .ok (.newarray .int, 2) := by decide +kernel
theorem dX6_init_19 : decode cX6_init 19 = .ok (.putfield 17, 3) := by decide +kernel
theorem dX6_init_22 : decode cX6_init 22 = .ok (.aload_n 0, 1) := by decide +kernel
theorem dX6_init_23 : decode cX6_init 23 = .ok (.new 9, 3) := by decide +kernel
theorem dX6_init_26 : decode cX6_init 26 = .ok (.dup, 1) := by decide +kernel
theorem dX6_init_27 : decode cX6_init 27 = .ok (.invokespecial 21, 3) := by decide +kernel
theorem dX6_init_30 : decode cX6_init 30 = .ok (.putfield 22, 3) := by decide +kernel
theorem dX6_init_33 : decode cX6_init 33 = .ok (.aload_n 0, 1) := by decide +kernel
theorem dX6_init_34 : decode cX6_init 34 = .ok (.sipush 300, 3) := by decide +kernel
theorem dX6_init_37 : decode cX6_init 37 = .ok (.newarray .int, 2) := by decide +kernel
theorem dX6_init_39 : decode cX6_init 39 = .ok (.putfield 26, 3) := by decide +kernel
theorem dX6_init_42 : decode cX6_init 42 = .ok (.iconst 0, 1) := by decide +kernel
theorem dX6_init_43 : decode cX6_init 43 = .ok (.istore_n 1, 1) := by decide +kernel
theorem dX6_init_44 : decode cX6_init 44 = .ok (.iload_n 1, 1) := by decide +kernel
theorem dX6_init_45 : decode cX6_init 45 = .ok (.bipush 40, 2) := by decide +kernel
theorem dX6_init_47 : decode cX6_init 47 = .ok (.if_icmp .ge 22, 3) := by decide +kernel
theorem dX6_init_50 : decode cX6_init 50 = .ok (.aload_n 0, 1) := by decide +kernel
theorem dX6_init_51 : decode cX6_init 51 = .ok (.getfield 11, 3) := by decide +kernel
theorem dX6_init_54 : decode cX6_init 54 = .ok (.iload_n 1, 1) := by decide +kernel
theorem dX6_init_55 : decode cX6_init 55 = .ok (.new 9, 3) := by decide +kernel
theorem dX6_init_58 : decode cX6_init 58 = .ok (.dup, 1) := by decide +kernel
theorem dX6_init_59 : decode cX6_init 59 = .ok (.invokespecial 21, 3) := by decide +kernel
theorem dX6_init_62 : decode cX6_init 62 = .ok (.aastore, 1) := by decide +kernel
theorem dX6_init_63 : decode cX6_init 63 = .ok (.iinc 1 1, 3) := by decide +kernel
theorem dX6_init_66 : decode cX6_init 66 = .ok (.goto (-22), 3) := by decide +kernel
theorem dX6_init_69 : decode cX6_init 69 = .ok (.return_, 1) := by decide +kernel
theorem dX6_forget_0 : decode cX6_forget 0 = .ok (.aload_n 0, 1) := by decide +kernel
theorem dX6_forget_1 : decode cX6_forget 1 = .ok (.iconst 0, 1) := by decide +kernel
theorem dX6_forget_2 : decode cX6_forget 2 = .ok (.putfield 29, 3) := by decide +kernel
theorem dX6_forget_5 : decode cX6_forget 5 = .ok (.aload_n 0, 1) := by decide +kernel
theorem dX6_forget_6 : decode cX6_forget 6 = .ok (.iconst 0, 1) := by decide +kernel
theorem dX6_forget_7 : decode cX6_forget 7 = .ok (.putfield 33, 3) := by decide +kernel
theorem dX6_forget_10 : decode cX6_forget 10 = .ok (.return_, 1) := by decide +kernel
theorem dX6_remember_0 : decode cX6_remember 0 = .ok (.aload_n 0, 1) := by decide +kernel
theorem dX6_remember_1 : decode cX6_remember 1 = .ok (.getfield 11, 3) := by decide +kernel
theorem dX6_remember_4 : decode cX6_remember 4 = .ok (.aload_n 0, 1) := by decide +kernel
theorem dX6_remember_5 : decode cX6_remember 5 = .ok (.getfield 37, 3) := by decide +kernel
theorem dX6_remember_8 : decode cX6_remember 8 = .ok (.aaload, 1) := by decide +kernel
theorem dX6_remember_9 : decode cX6_remember 9 = .ok (.aload_n 1, 1) := by decide +kernel
theorem dX6_remember_10 : decode cX6_remember 10 = .ok (.invokevirtual 40, 3) := by decide +kernel
theorem dX6_remember_13 : decode cX6_remember 13 = .ok (.aload_n 0, 1) := by decide +kernel
theorem dX6_remember_14 : decode cX6_remember 14 = .ok (.aload_n 0, 1) := by decide +kernel
theorem dX6_remember_15 : decode cX6_remember 15 = .ok (.getfield 37, 3) := by decide +kernel
theorem dX6_remember_18 : decode cX6_remember 18 = .ok (.iconst 1, 1) := by decide +kernel
theorem dX6_remember_19 : decode cX6_remember 19 = .ok (.iadd, 1) := by decide +kernel
theorem dX6_remember_20 : decode cX6_remember 20 = .ok (.bipush 40, 2) := by decide +kernel
theorem dX6_remember_22 : decode cX6_remember 22 = .ok (.irem, 1) := by decide +kernel
theorem dX6_remember_23 : decode cX6_remember 23 = .ok (.putfield 37, 3) := by decide +kernel
theorem dX6_remember_26 : decode cX6_remember 26 = .ok (.aload_n 0, 1) := by decide +kernel
theorem dX6_remember_27 : decode cX6_remember 27 = .ok (.bipush 40, 2) := by decide +kernel
theorem dX6_remember_29 : decode cX6_remember 29 = .ok (.aload_n 0, 1) := by decide +kernel
theorem dX6_remember_30 : decode cX6_remember 30 = .ok (.getfield 29, 3) := by decide +kernel
theorem dX6_remember_33 : decode cX6_remember 33 = .ok (.iconst 1, 1) := by decide +kernel
theorem dX6_remember_34 : decode cX6_remember 34 = .ok (.iadd, 1) := by decide +kernel
theorem dX6_remember_35 : decode cX6_remember 35 = .ok (.invokestatic 44, 3) := by decide +kernel
theorem dX6_remember_38 : decode cX6_remember 38 = .ok (.putfield 29, 3) := by decide +kernel
theorem dX6_remember_41 : decode cX6_remember 41 = .ok (.return_, 1) := by decide +kernel
theorem dX6_undoOne_0 : decode cX6_undoOne 0 = .ok (.aload_n 0, 1) := by decide +kernel
theorem dX6_undoOne_1 : decode cX6_undoOne 1 = .ok (.getfield 29, 3) := by decide +kernel
theorem dX6_undoOne_4 : decode cX6_undoOne 4 = .ok (.ifCond .ne 5, 3) := by decide +kernel
theorem dX6_undoOne_7 : decode cX6_undoOne 7 = .ok (.iconst (-1), 1) := by decide +kernel
theorem dX6_undoOne_8 : decode cX6_undoOne 8 = .ok (.ireturn, 1) := by decide +kernel
theorem dX6_undoOne_9 : decode cX6_undoOne 9 = .ok (.aload_n 0, 1) := by decide +kernel
theorem dX6_undoOne_10 : decode cX6_undoOne 10 = .ok (.aload_n 0, 1) := by decide +kernel
theorem dX6_undoOne_11 : decode cX6_undoOne 11 = .ok (.getfield 37, 3) := by decide +kernel
theorem dX6_undoOne_14 : decode cX6_undoOne 14 = .ok (.bipush 40, 2) := by decide +kernel
theorem dX6_undoOne_16 : decode cX6_undoOne 16 = .ok (.iadd, 1) := by decide +kernel
theorem dX6_undoOne_17 : decode cX6_undoOne 17 = .ok (.iconst 1, 1) := by decide +kernel
theorem dX6_undoOne_18 : decode cX6_undoOne 18 = .ok (.isub, 1) := by decide +kernel
theorem dX6_undoOne_19 : decode cX6_undoOne 19 = .ok (.bipush 40, 2) := by decide +kernel
theorem dX6_undoOne_21 : decode cX6_undoOne 21 = .ok (.irem, 1) := by decide +kernel
theorem dX6_undoOne_22 : decode cX6_undoOne 22 = .ok (.putfield 37, 3) := by decide +kernel
theorem dX6_undoOne_25 : decode cX6_undoOne 25 = .ok (.aload_n 0, 1) := by decide +kernel
theorem dX6_undoOne_26 : decode cX6_undoOne 26 = .ok (.dup, 1) := by decide +kernel
theorem dX6_undoOne_27 : decode cX6_undoOne 27 = .ok (.getfield 29, 3) := by decide +kernel
theorem dX6_undoOne_30 : decode cX6_undoOne 30 = .ok (.iconst 1, 1) := by decide +kernel
theorem dX6_undoOne_31 : decode cX6_undoOne 31 = .ok (.isub, 1) := by decide +kernel
theorem dX6_undoOne_32 : decode cX6_undoOne 32 = .ok (.putfield 29, 3) := by decide +kernel
theorem dX6_undoOne_35 : decode cX6_undoOne 35 = .ok (.aload_n 1, 1) := by decide +kernel
theorem dX6_undoOne_36 : decode cX6_undoOne 36 = .ok (.aload_n 0, 1) := by decide +kernel
theorem dX6_undoOne_37 : decode cX6_undoOne 37 = .ok (.getfield 11, 3) := by decide +kernel
theorem dX6_undoOne_40 : decode cX6_undoOne 40 = .ok (.aload_n 0, 1) := by decide +kernel
theorem dX6_undoOne_41 : decode cX6_undoOne 41 = .ok (.getfield 37, 3) := by decide +kernel
theorem dX6_undoOne_44 : decode cX6_undoOne 44 = .ok (.aaload, 1) := by decide +kernel
theorem dX6_undoOne_45 : decode cX6_undoOne 45 = .ok (.invokevirtual 40, 3) := by decide +kernel
theorem dX6_undoOne_48 : decode cX6_undoOne 48 = .ok (.aload_n 0, 1) := by decide +kernel
theorem dX6_undoOne_49 : decode cX6_undoOne 49 = .ok (.getfield 29, 3) := by decide +kernel
theorem dX6_undoOne_52 : decode cX6_undoOne 52 = .ok (.ireturn, 1) := by decide +kernel
theorem dX6_logSize_0 : decode cX6_logSize 0 = .ok (.bipush 60, 2) := by decide +kernel
theorem dX6_logSize_2 : decode cX6_logSize 2 = .ok (.iload_n 0, 1) := by decide +kernel
theorem dX6_logSize_3 : decode cX6_logSize 3 = .ok (.invokestatic 44, 3) := by decide +kernel
theorem dX6_logSize_6 : decode cX6_logSize 6 = .ok (.ireturn, 1) := by decide +kernel
theorem dX6_rowOf_0 : decode cX6_rowOf 0 = .ok (.iload_n 0, 1) := by decide +kernel
theorem dX6_rowOf_1 : decode cX6_rowOf 1 = .ok (.bipush 100, 2) := by decide +kernel
theorem dX6_rowOf_3 : decode cX6_rowOf 3 = .ok (.invokestatic 50, 3) := by decide +kernel
theorem dX6_rowOf_6 : decode cX6_rowOf 6 = .ok (.iconst 3, 1) := by decide +kernel
theorem dX6_rowOf_7 : decode cX6_rowOf 7 = .ok (.imul, 1) := by decide +kernel
theorem dX6_rowOf_8 : decode cX6_rowOf 8 = .ok (.ireturn, 1) := by decide +kernel
theorem dX6_note_0 : decode cX6_note 0 = .ok (.iload_n 1, 1) := by decide +kernel
theorem dX6_note_1 : decode cX6_note 1 = .ok (.invokestatic 53, 3) := by decide +kernel
theorem dX6_note_4 : decode cX6_note 4 = .ok (.istore 5, 2) := by decide +kernel
theorem dX6_note_6 : decode cX6_note 6 = .ok (.aload_n 0, 1) := by decide +kernel
theorem dX6_note_7 : decode cX6_note 7 = .ok (.getfield 17, 3) := by decide +kernel
theorem dX6_note_10 : decode cX6_note 10 = .ok (.iload 5, 2) := by decide +kernel
theorem dX6_note_12 : decode cX6_note 12 = .ok (.iload_n 2, 1) := by decide +kernel
theorem dX6_note_13 : decode cX6_note 13 = .ok (.iastore, 1) := by decide +kernel
theorem dX6_note_14 : decode cX6_note 14 = .ok (.aload_n 0, 1) := by decide +kernel
theorem dX6_note_15 : decode cX6_note 15 = .ok (.getfield 17, 3) := by decide +kernel
theorem dX6_note_18 : decode cX6_note 18 = .ok (.iload 5, 2) := by decide +kernel
theorem dX6_note_20 : decode cX6_note 20 = .ok (.iconst 1, 1) := by decide +kernel
theorem dX6_note_21 : decode cX6_note 21 = .ok (.iadd, 1) := by decide +kernel
theorem dX6_note_22 : decode cX6_note 22 = .ok (.iload_n 3, 1) := by decide +kernel
theorem dX6_note_23 : decode cX6_note 23 = .ok (.iastore, 1) := by decide +kernel
theorem dX6_note_24 : decode cX6_note 24 = .ok (.aload_n 0, 1) := by decide +kernel
theorem dX6_note_25 : decode cX6_note 25 = .ok (.getfield 17, 3) := by decide +kernel
theorem dX6_note_28 : decode cX6_note 28 = .ok (.iload 5, 2) := by decide +kernel
theorem dX6_note_30 : decode cX6_note 30 = .ok (.iconst 2, 1) := by decide +kernel
theorem dX6_note_31 : decode cX6_note 31 = .ok (.iadd, 1) := by decide +kernel
theorem dX6_note_32 : decode cX6_note 32 = .ok (.iload 4, 2) := by decide +kernel
theorem dX6_note_34 : decode cX6_note 34 = .ok (.iastore, 1) := by decide +kernel
theorem dX6_note_35 : decode cX6_note 35 = .ok (.return_, 1) := by decide +kernel
theorem dX6_noted_0 : decode cX6_noted 0 = .ok (.iload_n 2, 1) := by decide +kernel
theorem dX6_noted_1 : decode cX6_noted 1 = .ok (.ifCond .lt 8, 3) := by decide +kernel
theorem dX6_noted_4 : decode cX6_noted 4 = .ok (.iload_n 2, 1) := by decide +kernel
theorem dX6_noted_5 : decode cX6_noted 5 = .ok (.iconst 3, 1) := by decide +kernel
theorem dX6_noted_6 : decode cX6_noted 6 = .ok (.if_icmp .lt 7, 3) := by decide +kernel
theorem dX6_noted_9 : decode cX6_noted 9 = .ok (.iconst (-1), 1) := by decide +kernel
theorem dX6_noted_10 : decode cX6_noted 10 = .ok (.goto 14, 3) := by decide +kernel
theorem dX6_noted_13 : decode cX6_noted 13 = .ok (.aload_n 0, 1) := by decide +kernel
theorem dX6_noted_14 : decode cX6_noted 14 = .ok (.getfield 17, 3) := by decide +kernel
theorem dX6_noted_17 : decode cX6_noted 17 = .ok (.iload_n 1, 1) := by decide +kernel
theorem dX6_noted_18 : decode cX6_noted 18 = .ok (.invokestatic 53, 3) := by decide +kernel
theorem dX6_noted_21 : decode cX6_noted 21 = .ok (.iload_n 2, 1) := by decide +kernel
theorem dX6_noted_22 : decode cX6_noted 22 = .ok (.iadd, 1) := by decide +kernel
theorem dX6_noted_23 : decode cX6_noted 23 = .ok (.iaload, 1) := by decide +kernel
theorem dX6_noted_24 : decode cX6_noted 24 = .ok (.ireturn, 1) := by decide +kernel
theorem dX6_keepImage_0 : decode cX6_keepImage 0 = .ok (.aload_n 0, 1) := by decide +kernel
theorem dX6_keepImage_1 : decode cX6_keepImage 1 = .ok (.getfield 22, 3) := by decide +kernel
theorem dX6_keepImage_4 : decode cX6_keepImage 4 = .ok (.aload_n 1, 1) := by decide +kernel
theorem dX6_keepImage_5 : decode cX6_keepImage 5 = .ok (.invokevirtual 40, 3) := by decide +kernel
theorem dX6_keepImage_8 : decode cX6_keepImage 8 = .ok (.aload_n 0, 1) := by decide +kernel
theorem dX6_keepImage_9 : decode cX6_keepImage 9 = .ok (.getfield 17, 3) := by decide +kernel
theorem dX6_keepImage_12 : decode cX6_keepImage 12 = .ok (.iconst 0, 1) := by decide +kernel
theorem dX6_keepImage_13 : decode cX6_keepImage 13 = .ok (.aload_n 0, 1) := by decide +kernel
theorem dX6_keepImage_14 : decode cX6_keepImage 14 = .ok (.getfield 26, 3) := by decide +kernel
theorem dX6_keepImage_17 : decode cX6_keepImage 17 = .ok (.iconst 0, 1) := by decide +kernel
theorem dX6_keepImage_18 : decode cX6_keepImage 18 = .ok (.aload_n 0, 1) := by decide +kernel
theorem dX6_keepImage_19 : decode cX6_keepImage 19 = .ok (.getfield 17, 3) := by decide +kernel
theorem dX6_keepImage_22 : decode cX6_keepImage 22 = .ok (.arraylength, 1) := by decide +kernel
theorem dX6_keepImage_23 : decode cX6_keepImage 23 = .ok (.invokestatic 57, 3) := by decide +kernel
theorem dX6_keepImage_26 : decode cX6_keepImage 26 = .ok (.aload_n 0, 1) := by decide +kernel
theorem dX6_keepImage_27 : decode cX6_keepImage 27 = .ok (.iconst 1, 1) := by decide +kernel
theorem dX6_keepImage_28 : decode cX6_keepImage 28 = .ok (.putfield 33, 3) := by decide +kernel
theorem dX6_keepImage_31 : decode cX6_keepImage 31 = .ok (.return_, 1) := by decide +kernel
theorem dX6_goBack_0 : decode cX6_goBack 0 = .ok (.aload_n 0, 1) := by decide +kernel
theorem dX6_goBack_1 : decode cX6_goBack 1 = .ok (.getfield 33, 3) := by decide +kernel
theorem dX6_goBack_4 : decode cX6_goBack 4 = .ok (.ifCond .ne 5, 3) := by decide +kernel
theorem dX6_goBack_7 : decode cX6_goBack 7 = .ok (.iconst 0, 1) := by decide +kernel
theorem dX6_goBack_8 : decode cX6_goBack 8 = .ok (.ireturn, 1) := by decide +kernel
theorem dX6_goBack_9 : decode cX6_goBack 9 = .ok (.aload_n 1, 1) := by decide +kernel
theorem dX6_goBack_10 : decode cX6_goBack 10 = .ok (.aload_n 0, 1) := by decide +kernel
theorem dX6_goBack_11 : decode cX6_goBack 11 = .ok (.getfield 22, 3) := by decide +kernel
theorem dX6_goBack_14 : decode cX6_goBack 14 = .ok (.invokevirtual 40, 3) := by decide +kernel
theorem dX6_goBack_17 : decode cX6_goBack 17 = .ok (.aload_n 0, 1) := by decide +kernel
theorem dX6_goBack_18 : decode cX6_goBack 18 = .ok (.getfield 26, 3) := by decide +kernel
theorem dX6_goBack_21 : decode cX6_goBack 21 = .ok (.iconst 0, 1) := by decide +kernel
theorem dX6_goBack_22 : decode cX6_goBack 22 = .ok (.aload_n 0, 1) := by decide +kernel
theorem dX6_goBack_23 : decode cX6_goBack 23 = .ok (.getfield 17, 3) := by decide +kernel
theorem dX6_goBack_26 : decode cX6_goBack 26 = .ok (.iconst 0, 1) := by decide +kernel
theorem dX6_goBack_27 : decode cX6_goBack 27 = .ok (.aload_n 0, 1) := by decide +kernel
theorem dX6_goBack_28 : decode cX6_goBack 28 = .ok (.getfield 17, 3) := by decide +kernel
theorem dX6_goBack_31 : decode cX6_goBack 31 = .ok (.arraylength, 1) := by decide +kernel
theorem dX6_goBack_32 : decode cX6_goBack 32 = .ok (.invokestatic 57, 3) := by decide +kernel
theorem dX6_goBack_35 : decode cX6_goBack 35 = .ok (.aload_n 0, 1) := by decide +kernel
theorem dX6_goBack_36 : decode cX6_goBack 36 = .ok (.iconst 0, 1) := by decide +kernel
theorem dX6_goBack_37 : decode cX6_goBack 37 = .ok (.putfield 29, 3) := by decide +kernel
theorem dX6_goBack_40 : decode cX6_goBack 40 = .ok (.iconst 1, 1) := by decide +kernel
theorem dX6_goBack_41 : decode cX6_goBack 41 = .ok (.ireturn, 1) := by decide +kernel
theorem dX0_init_0 : decode cX0_init 0 = .ok (.aload_n 0, 1) := by decide +kernel
theorem dX0_init_1 : decode cX0_init 1 = .ok (.invokespecial 3, 3) := by decide +kernel
theorem dX0_init_4 : decode cX0_init 4 = .ok (.aload_n 0, 1) := by decide +kernel
theorem dX0_init_5 : decode cX0_init 5 = .ok (.bipush 7, 2) := by decide +kernel
theorem dX0_init_7 : decode cX0_init 7 = .ok (.newarray .int, 2) := by decide +kernel
theorem dX0_init_9 : decode cX0_init 9 = .ok (.putfield 9, 3) := by decide +kernel
theorem dX0_init_12 : decode cX0_init 12 = .ok (.aload_n 0, 1) := by decide +kernel
theorem dX0_init_13 : decode cX0_init 13 = .ok (.bipush 12, 2) := by decide +kernel
theorem dX0_init_15 : decode cX0_init 15 = .ok (.newarray .int, 2) := by decide +kernel
theorem dX0_init_17 : decode cX0_init 17 = .ok (.putfield 15, 3) := by decide +kernel
theorem dX0_init_20 : decode cX0_init 20 = .ok (.aload_n 0, 1) := by decide +kernel
theorem dX0_init_21 : decode cX0_init 21 = .ok (.bipush 12, 2) := by decide +kernel
theorem dX0_init_23 : decode cX0_init 23 = .ok (.newarray .int, 2) := by decide +kernel
theorem dX0_init_25 : decode cX0_init 25 = .ok (.putfield 18, 3) := by decide +kernel
theorem dX0_init_28 : decode cX0_init 28 = .ok (.aload_n 0, 1) := by decide +kernel
theorem dX0_init_29 : decode cX0_init 29 = .ok (.bipush 12, 2) := by decide +kernel
theorem dX0_init_31 : decode cX0_init 31 = .ok (.newarray .int, 2) := by decide +kernel
theorem dX0_init_33 : decode cX0_init 33 = .ok (.putfield 21, 3) := by decide +kernel
theorem dX0_init_36 : decode cX0_init 36 = .ok (.aload_n 0, 1) := by decide +kernel
theorem dX0_init_37 : decode cX0_init 37 = .ok (.bipush 12, 2) := by decide +kernel
theorem dX0_init_39 : decode cX0_init 39 = .ok (.newarray .int, 2) := by decide +kernel
theorem dX0_init_41 : decode cX0_init 41 = .ok (.putfield 24, 3) := by decide +kernel
theorem dX0_init_44 : decode cX0_init 44 = .ok (.aload_n 0, 1) := by decide +kernel
theorem dX0_init_45 : decode cX0_init 45 = .ok (.iconst 4, 1) := by decide +kernel
theorem dX0_init_46 : decode cX0_init 46 = .ok (.newarray .int, 2) := by decide +kernel
theorem dX0_init_48 : decode cX0_init 48 = .ok (.putfield 27, 3) := by decide +kernel
theorem dX0_init_51 : decode cX0_init 51 = .ok (.aload_n 0, 1) := by decide +kernel
theorem dX0_init_52 : decode cX0_init 52 = .ok (.ldc 30, 2) := by decide +kernel
theorem dX0_init_54 : decode cX0_init 54 = .ok (.invokevirtual 32, 3) := by decide +kernel
theorem dX0_init_57 : decode cX0_init 57 = .ok (.newarray .int, 2) := by decide +kernel
theorem dX0_init_59 : decode cX0_init 59 = .ok (.putfield 37, 3) := by decide +kernel
theorem dX0_init_62 : decode cX0_init 62 = .ok (.return_, 1) := by decide +kernel
theorem dX0_isTold_0 : decode cX0_isTold 0 = .ok (.aload_n 0, 1) := by decide +kernel
theorem dX0_isTold_1 : decode cX0_isTold 1 = .ok (.getfield 40, 3) := by decide +kernel
theorem dX0_isTold_4 : decode cX0_isTold 4 = .ok (.ifCond .le 7, 3) := by decide +kernel
theorem dX0_isTold_7 : decode cX0_isTold 7 = .ok (.iconst 1, 1) := by decide +kernel
theorem dX0_isTold_8 : decode cX0_isTold 8 = .ok (.goto 4, 3) := by decide +kernel
theorem dX0_isTold_11 : decode cX0_isTold 11 = .ok (.iconst 0, 1) := by decide +kernel
theorem dX0_isTold_12 : decode cX0_isTold 12 = .ok (.ireturn, 1) := by decide +kernel
theorem dX0_hasPlace_0 : decode cX0_hasPlace 0 = .ok (.iload_n 1, 1) := by decide +kernel
theorem dX0_hasPlace_1 : decode cX0_hasPlace 1 = .ok (.ifCond .lt 15, 3) := by decide +kernel
theorem dX0_hasPlace_4 : decode cX0_hasPlace 4 = .ok (.iload_n 1, 1) := by decide +kernel
theorem dX0_hasPlace_5 : decode cX0_hasPlace 5 = .ok (.aload_n 0, 1) := by decide +kernel
theorem dX0_hasPlace_6 : decode cX0_hasPlace 6 = .ok (.getfield 40, 3) := by decide +kernel
theorem dX0_hasPlace_9 : decode cX0_hasPlace 9 = .ok (.if_icmp .ge 7, 3) := by decide +kernel
theorem dX0_hasPlace_12 : decode cX0_hasPlace 12 = .ok (.iconst 1, 1) := by decide +kernel
theorem dX0_hasPlace_13 : decode cX0_hasPlace 13 = .ok (.goto 4, 3) := by decide +kernel
theorem dX0_hasPlace_16 : decode cX0_hasPlace 16 = .ok (.iconst 0, 1) := by decide +kernel
theorem dX0_hasPlace_17 : decode cX0_hasPlace 17 = .ok (.ireturn, 1) := by decide +kernel
theorem dX0_hasPlaces_0 : decode cX0_hasPlaces 0 = .ok (.aload_n 0, 1) := by decide +kernel
theorem dX0_hasPlaces_1 : decode cX0_hasPlaces 1 = .ok (.iload_n 1, 1) := by decide +kernel
theorem dX0_hasPlaces_2 : decode cX0_hasPlaces 2 = .ok (.invokevirtual 44, 3) := by decide +kernel
theorem dX0_hasPlaces_5 : decode cX0_hasPlaces 5 = .ok (.ifCond .eq 15, 3) := by decide +kernel
theorem dX0_hasPlaces_8 : decode cX0_hasPlaces 8 = .ok (.aload_n 0, 1) := by decide +kernel
theorem dX0_hasPlaces_9 : decode cX0_hasPlaces 9 = .ok (.iload_n 2, 1) := by decide +kernel
theorem dX0_hasPlaces_10 : decode cX0_hasPlaces 10 = .ok (.invokevirtual 44, 3) := by decide +kernel
theorem dX0_hasPlaces_13 : decode cX0_hasPlaces 13 = .ok (.ifCond .eq 7, 3) := by decide +kernel
theorem dX0_hasPlaces_16 : decode cX0_hasPlaces 16 = .ok (.iconst 1, 1) := by decide +kernel
theorem dX0_hasPlaces_17 : decode cX0_hasPlaces 17 = .ok (.goto 4, 3) := by decide +kernel
theorem dX0_hasPlaces_20 : decode cX0_hasPlaces 20 = .ok (.iconst 0, 1) := by decide +kernel
theorem dX0_hasPlaces_21 : decode cX0_hasPlaces 21 = .ok (.ireturn, 1) := by decide +kernel
theorem dX0_hasAnyOf_0 : decode cX0_hasAnyOf 0 = .ok (.iload_n 1, 1) := by decide +kernel
theorem dX0_hasAnyOf_1 : decode cX0_hasAnyOf 1 = .ok (.ifCond .le 17, 3) := by decide +kernel
theorem dX0_hasAnyOf_4 : decode cX0_hasAnyOf 4 = .ok (.iload_n 1, 1) := by decide +kernel
theorem dX0_hasAnyOf_5 : decode cX0_hasAnyOf 5 = .ok (.iconst 1, 1) := by decide +kernel
theorem dX0_hasAnyOf_6 : decode cX0_hasAnyOf 6 = .ok (.aload_n 0, 1) := by decide +kernel
theorem dX0_hasAnyOf_7 : decode cX0_hasAnyOf 7 = .ok (.getfield 40, 3) := by decide +kernel
theorem dX0_hasAnyOf_10 : decode cX0_hasAnyOf 10 = .ok (.ishl, 1) := by decide +kernel
theorem dX0_hasAnyOf_11 : decode cX0_hasAnyOf 11 = .ok (.if_icmp .ge 7, 3) := by decide +kernel
theorem dX0_hasAnyOf_14 : decode cX0_hasAnyOf 14 = .ok (.iconst 1, 1) := by decide +kernel
theorem dX0_hasAnyOf_15 : decode cX0_hasAnyOf 15 = .ok (.goto 4, 3) := by decide +kernel
theorem dX0_hasAnyOf_18 : decode cX0_hasAnyOf 18 = .ok (.iconst 0, 1) := by decide +kernel
theorem dX0_hasAnyOf_19 : decode cX0_hasAnyOf 19 = .ok (.ireturn, 1) := by decide +kernel
theorem dX0_hasRoad_0 : decode cX0_hasRoad 0 = .ok (.iload_n 1, 1) := by decide +kernel
theorem dX0_hasRoad_1 : decode cX0_hasRoad 1 = .ok (.ifCond .lt 15, 3) := by decide +kernel
theorem dX0_hasRoad_4 : decode cX0_hasRoad 4 = .ok (.iload_n 1, 1) := by decide +kernel
theorem dX0_hasRoad_5 : decode cX0_hasRoad 5 = .ok (.aload_n 0, 1) := by decide +kernel
theorem dX0_hasRoad_6 : decode cX0_hasRoad 6 = .ok (.getfield 48, 3) := by decide +kernel
theorem dX0_hasRoad_9 : decode cX0_hasRoad 9 = .ok (.if_icmp .ge 7, 3) := by decide +kernel
theorem dX0_hasRoad_12 : decode cX0_hasRoad 12 = .ok (.iconst 1, 1) := by decide +kernel
theorem dX0_hasRoad_13 : decode cX0_hasRoad 13 = .ok (.goto 4, 3) := by decide +kernel
theorem dX0_hasRoad_16 : decode cX0_hasRoad 16 = .ok (.iconst 0, 1) := by decide +kernel
theorem dX0_hasRoad_17 : decode cX0_hasRoad 17 = .ok (.ireturn, 1) := by decide +kernel
theorem dX0_hasSet_0 : decode cX0_hasSet 0 = .ok (.iload_n 1, 1) := by decide +kernel
theorem dX0_hasSet_1 : decode cX0_hasSet 1 = .ok (.ifCond .lt 15, 3) := by decide +kernel
theorem dX0_hasSet_4 : decode cX0_hasSet 4 = .ok (.iload_n 1, 1) := by decide +kernel
theorem dX0_hasSet_5 : decode cX0_hasSet 5 = .ok (.aload_n 0, 1) := by decide +kernel
theorem dX0_hasSet_6 : decode cX0_hasSet 6 = .ok (.getfield 51, 3) := by decide +kernel
theorem dX0_hasSet_9 : decode cX0_hasSet 9 = .ok (.if_icmp .ge 7, 3) := by decide +kernel
theorem dX0_hasSet_12 : decode cX0_hasSet 12 = .ok (.iconst 1, 1) := by decide +kernel
theorem dX0_hasSet_13 : decode cX0_hasSet 13 = .ok (.goto 4, 3) := by decide +kernel
theorem dX0_hasSet_16 : decode cX0_hasSet 16 = .ok (.iconst 0, 1) := by decide +kernel
theorem dX0_hasSet_17 : decode cX0_hasSet 17 = .ok (.ireturn, 1) := by decide +kernel
theorem dX0_hasTwoSets_0 : decode cX0_hasTwoSets 0 = .ok (.aload_n 0, 1) := by decide +kernel
theorem dX0_hasTwoSets_1 : decode cX0_hasTwoSets 1 = .ok (.iload_n 1, 1) := by decide +kernel
theorem dX0_hasTwoSets_2 : decode cX0_hasTwoSets 2 = .ok (.invokevirtual 54, 3) := by decide +kernel
theorem dX0_hasTwoSets_5 : decode cX0_hasTwoSets 5 = .ok (.ifCond .eq 20, 3) := by decide +kernel
theorem dX0_hasTwoSets_8 : decode cX0_hasTwoSets 8 = .ok (.aload_n 0, 1) := by decide +kernel
theorem dX0_hasTwoSets_9 : decode cX0_hasTwoSets 9 = .ok (.iload_n 2, 1) := by decide +kernel
theorem dX0_hasTwoSets_10 : decode cX0_hasTwoSets 10 = .ok (.invokevirtual 54, 3) := by decide +kernel
theorem dX0_hasTwoSets_13 : decode cX0_hasTwoSets 13 = .ok (.ifCond .eq 12, 3) := by decide +kernel
theorem dX0_hasTwoSets_16 : decode cX0_hasTwoSets 16 = .ok (.iload_n 1, 1) := by decide +kernel
theorem dX0_hasTwoSets_17 : decode cX0_hasTwoSets 17 = .ok (.iload_n 2, 1) := by decide +kernel
theorem dX0_hasTwoSets_18 : decode cX0_hasTwoSets 18 = .ok (.if_icmp .eq 7, 3) := by decide +kernel
theorem dX0_hasTwoSets_21 : decode cX0_hasTwoSets 21 = .ok (.iconst 1, 1) := by decide +kernel
theorem dX0_hasTwoSets_22 : decode cX0_hasTwoSets 22 = .ok (.goto 4, 3) := by decide +kernel
theorem dX0_hasTwoSets_25 : decode cX0_hasTwoSets 25 = .ok (.iconst 0, 1) := by decide +kernel
theorem dX0_hasTwoSets_26 : decode cX0_hasTwoSets 26 = .ok (.ireturn, 1) := by decide +kernel
theorem dX0_allRoads_0 : decode cX0_allRoads 0 = .ok (.iconst 1, 1) := by decide +kernel
theorem dX0_allRoads_1 : decode cX0_allRoads 1 = .ok (.aload_n 0, 1) := by decide +kernel
theorem dX0_allRoads_2 : decode cX0_allRoads 2 = .ok (.getfield 48, 3) := by decide +kernel
theorem dX0_allRoads_5 : decode cX0_allRoads 5 = .ok (.ishl, 1) := by decide +kernel
theorem dX0_allRoads_6 : decode cX0_allRoads 6 = .ok (.iconst 1, 1) := by decide +kernel
theorem dX0_allRoads_7 : decode cX0_allRoads 7 = .ok (.isub, 1) := by decide +kernel
theorem dX0_allRoads_8 : decode cX0_allRoads 8 = .ok (.ireturn, 1) := by decide +kernel
theorem dX0_isBetween_0 : decode cX0_isBetween 0 = .ok (.aload_n 0, 1) := by decide +kernel
theorem dX0_isBetween_1 : decode cX0_isBetween 1 = .ok (.getfield 15, 3) := by decide +kernel
theorem dX0_isBetween_4 : decode cX0_isBetween 4 = .ok (.iload_n 1, 1) := by decide +kernel
theorem dX0_isBetween_5 : decode cX0_isBetween 5 = .ok (.iaload, 1) := by decide +kernel
theorem dX0_isBetween_6 : decode cX0_isBetween 6 = .ok (.iload_n 2, 1) := by decide +kernel
theorem dX0_isBetween_7 : decode cX0_isBetween 7 = .ok (.if_icmp .ne 13, 3) := by decide +kernel
theorem dX0_isBetween_10 : decode cX0_isBetween 10 = .ok (.aload_n 0, 1) := by decide +kernel
theorem dX0_isBetween_11 : decode cX0_isBetween 11 = .ok (.getfield 18, 3) := by decide +kernel
theorem dX0_isBetween_14 : decode cX0_isBetween 14 = .ok (.iload_n 1, 1) := by decide +kernel
theorem dX0_isBetween_15 : decode cX0_isBetween 15 = .ok (.iaload, 1) := by decide +kernel
theorem dX0_isBetween_16 : decode cX0_isBetween 16 = .ok (.iload_n 3, 1) := by decide +kernel
theorem dX0_isBetween_17 : decode cX0_isBetween 17 = .ok (.if_icmp .eq 23, 3) := by decide +kernel
theorem dX0_isBetween_20 : decode cX0_isBetween 20 = .ok (.aload_n 0, 1) := by decide +kernel
theorem dX0_isBetween_21 : decode cX0_isBetween 21 = .ok (.getfield 15, 3) := by decide +kernel
theorem dX0_isBetween_24 : decode cX0_isBetween 24 = .ok (.iload_n 1, 1) := by decide +kernel
theorem dX0_isBetween_25 : decode cX0_isBetween 25 = .ok (.iaload, 1) := by decide +kernel
theorem dX0_isBetween_26 : decode cX0_isBetween 26 = .ok (.iload_n 3, 1) := by decide +kernel
theorem dX0_isBetween_27 : decode cX0_isBetween 27 = .ok (.if_icmp .ne 17, 3) := by decide +kernel
theorem dX0_isBetween_30 : decode cX0_isBetween 30 = .ok (.aload_n 0, 1) := by decide +kernel
theorem dX0_isBetween_31 : decode cX0_isBetween 31 = .ok (.getfield 18, 3) := by decide +kernel
theorem dX0_isBetween_34 : decode cX0_isBetween 34 = .ok (.iload_n 1, 1) := by decide +kernel
theorem dX0_isBetween_35 : decode cX0_isBetween 35 = .ok (.iaload, 1) := by decide +kernel
theorem dX0_isBetween_36 : decode cX0_isBetween 36 = .ok (.iload_n 2, 1) := by decide +kernel
theorem dX0_isBetween_37 : decode cX0_isBetween 37 = .ok (.if_icmp .ne 7, 3) := by decide +kernel
theorem dX0_isBetween_40 : decode cX0_isBetween 40 = .ok (.iconst 1, 1) := by decide +kernel
theorem dX0_isBetween_41 : decode cX0_isBetween 41 = .ok (.goto 4, 3) := by decide +kernel
theorem dX0_isBetween_44 : decode cX0_isBetween 44 = .ok (.iconst 0, 1) := by decide +kernel
theorem dX0_isBetween_45 : decode cX0_isBetween 45 = .ok (.ireturn, 1) := by decide +kernel
theorem dX0_copyFrom_0 : decode cX0_copyFrom 0 = .ok (.aload_n 0, 1) := by decide +kernel
theorem dX0_copyFrom_1 : decode cX0_copyFrom 1 = .ok (.aload_n 1, 1) := by decide +kernel
theorem dX0_copyFrom_2 : decode cX0_copyFrom 2 = .ok (.getfield 57, 3) := by decide +kernel
theorem dX0_copyFrom_5 : decode cX0_copyFrom 5 = .ok (.putfield 57, 3) := by decide +kernel
theorem dX0_copyFrom_8 : decode cX0_copyFrom 8 = .ok (.aload_n 0, 1) := by decide +kernel
theorem dX0_copyFrom_9 : decode cX0_copyFrom 9 = .ok (.aload_n 1, 1) := by decide +kernel
theorem dX0_copyFrom_10 : decode cX0_copyFrom 10 = .ok (.getfield 60, 3) := by decide +kernel
theorem dX0_copyFrom_13 : decode cX0_copyFrom 13 = .ok (.putfield 60, 3) := by decide +kernel
theorem dX0_copyFrom_16 : decode cX0_copyFrom 16 = .ok (.aload_n 0, 1) := by decide +kernel
theorem dX0_copyFrom_17 : decode cX0_copyFrom 17 = .ok (.aload_n 1, 1) := by decide +kernel
theorem dX0_copyFrom_18 : decode cX0_copyFrom 18 = .ok (.getfield 40, 3) := by decide +kernel
theorem dX0_copyFrom_21 : decode cX0_copyFrom 21 = .ok (.putfield 40, 3) := by decide +kernel
theorem dX0_copyFrom_24 : decode cX0_copyFrom 24 = .ok (.aload_n 0, 1) := by decide +kernel
theorem dX0_copyFrom_25 : decode cX0_copyFrom 25 = .ok (.aload_n 1, 1) := by decide +kernel
theorem dX0_copyFrom_26 : decode cX0_copyFrom 26 = .ok (.getfield 48, 3) := by decide +kernel
theorem dX0_copyFrom_29 : decode cX0_copyFrom 29 = .ok (.putfield 48, 3) := by decide +kernel
theorem dX0_copyFrom_32 : decode cX0_copyFrom 32 = .ok (.aload_n 0, 1) := by decide +kernel
theorem dX0_copyFrom_33 : decode cX0_copyFrom 33 = .ok (.aload_n 1, 1) := by decide +kernel
theorem dX0_copyFrom_34 : decode cX0_copyFrom 34 = .ok (.getfield 51, 3) := by decide +kernel
theorem dX0_copyFrom_37 : decode cX0_copyFrom 37 = .ok (.putfield 51, 3) := by decide +kernel
theorem dX0_copyFrom_40 : decode cX0_copyFrom 40 = .ok (.aload_n 1, 1) := by decide +kernel
theorem dX0_copyFrom_41 : decode cX0_copyFrom 41 = .ok (.getfield 9, 3) := by decide +kernel
theorem dX0_copyFrom_44 : decode cX0_copyFrom 44 = .ok (.iconst 0, 1) := by decide +kernel
theorem dX0_copyFrom_45 : decode cX0_copyFrom 45 = .ok (.aload_n 0, 1) := by decide +kernel
theorem dX0_copyFrom_46 : decode cX0_copyFrom 46 = .ok (.getfield 9, 3) := by decide +kernel
theorem dX0_copyFrom_49 : decode cX0_copyFrom 49 = .ok (.iconst 0, 1) := by decide +kernel
theorem dX0_copyFrom_50 : decode cX0_copyFrom 50 = .ok (.bipush 7, 2) := by decide +kernel
theorem dX0_copyFrom_52 : decode cX0_copyFrom 52 = .ok (.invokestatic 63, 3) := by decide +kernel
theorem dX0_copyFrom_55 : decode cX0_copyFrom 55 = .ok (.aload_n 1, 1) := by decide +kernel
theorem dX0_copyFrom_56 : decode cX0_copyFrom 56 = .ok (.getfield 15, 3) := by decide +kernel
theorem dX0_copyFrom_59 : decode cX0_copyFrom 59 = .ok (.iconst 0, 1) := by decide +kernel
theorem dX0_copyFrom_60 : decode cX0_copyFrom 60 = .ok (.aload_n 0, 1) := by decide +kernel
theorem dX0_copyFrom_61 : decode cX0_copyFrom 61 = .ok (.getfield 15, 3) := by decide +kernel
theorem dX0_copyFrom_64 : decode cX0_copyFrom 64 = .ok (.iconst 0, 1) := by decide +kernel
theorem dX0_copyFrom_65 : decode cX0_copyFrom 65 = .ok (.bipush 12, 2) := by decide +kernel
theorem dX0_copyFrom_67 : decode cX0_copyFrom 67 = .ok (.invokestatic 63, 3) := by decide +kernel
theorem dX0_copyFrom_70 : decode cX0_copyFrom 70 = .ok (.aload_n 1, 1) := by decide +kernel
theorem dX0_copyFrom_71 : decode cX0_copyFrom 71 = .ok (.getfield 18, 3) := by decide +kernel
theorem dX0_copyFrom_74 : decode cX0_copyFrom 74 = .ok (.iconst 0, 1) := by decide +kernel
theorem dX0_copyFrom_75 : decode cX0_copyFrom 75 = .ok (.aload_n 0, 1) := by decide +kernel
theorem dX0_copyFrom_76 : decode cX0_copyFrom 76 = .ok (.getfield 18, 3) := by decide +kernel
theorem dX0_copyFrom_79 : decode cX0_copyFrom 79 = .ok (.iconst 0, 1) := by decide +kernel
theorem dX0_copyFrom_80 : decode cX0_copyFrom 80 = .ok (.bipush 12, 2) := by decide +kernel
theorem dX0_copyFrom_82 : decode cX0_copyFrom 82 = .ok (.invokestatic 63, 3) := by decide +kernel
theorem dX0_copyFrom_85 : decode cX0_copyFrom 85 = .ok (.aload_n 1, 1) := by decide +kernel
theorem dX0_copyFrom_86 : decode cX0_copyFrom 86 = .ok (.getfield 21, 3) := by decide +kernel
theorem dX0_copyFrom_89 : decode cX0_copyFrom 89 = .ok (.iconst 0, 1) := by decide +kernel
theorem dX0_copyFrom_90 : decode cX0_copyFrom 90 = .ok (.aload_n 0, 1) := by decide +kernel
theorem dX0_copyFrom_91 : decode cX0_copyFrom 91 = .ok (.getfield 21, 3) := by decide +kernel
theorem dX0_copyFrom_94 : decode cX0_copyFrom 94 = .ok (.iconst 0, 1) := by decide +kernel
theorem dX0_copyFrom_95 : decode cX0_copyFrom 95 = .ok (.bipush 12, 2) := by decide +kernel
theorem dX0_copyFrom_97 : decode cX0_copyFrom 97 = .ok (.invokestatic 63, 3) := by decide +kernel
theorem dX0_copyFrom_100 : decode cX0_copyFrom 100 = .ok (.aload_n 1, 1) := by decide +kernel
theorem dX0_copyFrom_101 : decode cX0_copyFrom 101 = .ok (.getfield 24, 3) := by decide +kernel
theorem dX0_copyFrom_104 : decode cX0_copyFrom 104 = .ok (.iconst 0, 1) := by decide +kernel
theorem dX0_copyFrom_105 : decode cX0_copyFrom 105 = .ok (.aload_n 0, 1) := by decide +kernel
theorem dX0_copyFrom_106 : decode cX0_copyFrom 106 = .ok (.getfield 24, 3) := by decide +kernel
theorem dX0_copyFrom_109 : decode cX0_copyFrom 109 = .ok (.iconst 0, 1) := by decide +kernel
theorem dX0_copyFrom_110 : decode cX0_copyFrom 110 = .ok (.bipush 12, 2) := by decide +kernel
theorem dX0_copyFrom_112 : decode cX0_copyFrom 112 = .ok (.invokestatic 63, 3) := by decide +kernel
theorem dX0_copyFrom_115 : decode cX0_copyFrom 115 = .ok (.aload_n 1, 1) := by decide +kernel
theorem dX0_copyFrom_116 : decode cX0_copyFrom 116 = .ok (.getfield 27, 3) := by decide +kernel
theorem dX0_copyFrom_119 : decode cX0_copyFrom 119 = .ok (.iconst 0, 1) := by decide +kernel
theorem dX0_copyFrom_120 : decode cX0_copyFrom 120 = .ok (.aload_n 0, 1) := by decide +kernel
theorem dX0_copyFrom_121 : decode cX0_copyFrom 121 = .ok (.getfield 27, 3) := by decide +kernel
theorem dX0_copyFrom_124 : decode cX0_copyFrom 124 = .ok (.iconst 0, 1) := by decide +kernel
theorem dX0_copyFrom_125 : decode cX0_copyFrom 125 = .ok (.iconst 4, 1) := by decide +kernel
theorem dX0_copyFrom_126 : decode cX0_copyFrom 126 = .ok (.invokestatic 63, 3) := by decide +kernel
theorem dX0_copyFrom_129 : decode cX0_copyFrom 129 = .ok (.return_, 1) := by decide +kernel
theorem dX0_readFrom_0 : decode cX0_readFrom 0 = .ok (.aload_n 0, 1) := by decide +kernel
theorem dX0_readFrom_1 : decode cX0_readFrom 1 = .ok (.iconst 0, 1) := by decide +kernel
theorem dX0_readFrom_2 : decode cX0_readFrom 2 = .ok (.putfield 69, 3) := by decide +kernel
theorem dX0_readFrom_5 : decode cX0_readFrom 5 = .ok (.aload_n 0, 1) := by decide +kernel
theorem dX0_readFrom_6 : decode cX0_readFrom 6 = .ok (.getstatic 72, 3) := by decide +kernel
theorem dX0_readFrom_9 : decode cX0_readFrom 9 = .ok (.iconst 0, 1) := by decide +kernel
theorem dX0_readFrom_10 : decode cX0_readFrom 10 = .ok (.iaload, 1) := by decide +kernel
theorem dX0_readFrom_11 : decode cX0_readFrom 11 = .ok (.putfield 57, 3) := by decide +kernel
theorem dX0_readFrom_14 : decode cX0_readFrom 14 = .ok (.aload_n 0, 1) := by decide +kernel
theorem dX0_readFrom_15 : decode cX0_readFrom 15 = .ok (.getstatic 72, 3) := by decide +kernel
theorem dX0_readFrom_18 : decode cX0_readFrom 18 = .ok (.iconst 1, 1) := by decide +kernel
theorem dX0_readFrom_19 : decode cX0_readFrom 19 = .ok (.iaload, 1) := by decide +kernel
theorem dX0_readFrom_20 : decode cX0_readFrom 20 = .ok (.putfield 60, 3) := by decide +kernel
theorem dX0_readFrom_23 : decode cX0_readFrom 23 = .ok (.aload_n 0, 1) := by decide +kernel
theorem dX0_readFrom_24 : decode cX0_readFrom 24 = .ok (.iconst 0, 1) := by decide +kernel
theorem dX0_readFrom_25 : decode cX0_readFrom 25 = .ok (.putfield 40, 3) := by decide +kernel
theorem dX0_readFrom_28 : decode cX0_readFrom 28 = .ok (.aload_n 0, 1) := by decide +kernel
theorem dX0_readFrom_29 : decode cX0_readFrom 29 = .ok (.iconst 0, 1) := by decide +kernel
theorem dX0_readFrom_30 : decode cX0_readFrom 30 = .ok (.putfield 48, 3) := by decide +kernel
theorem dX0_readFrom_33 : decode cX0_readFrom 33 = .ok (.aload_n 0, 1) := by decide +kernel
theorem dX0_readFrom_34 : decode cX0_readFrom 34 = .ok (.iconst 0, 1) := by decide +kernel
theorem dX0_readFrom_35 : decode cX0_readFrom 35 = .ok (.putfield 51, 3) := by decide +kernel
theorem dX0_readFrom_38 : decode cX0_readFrom 38 = .ok (.aload_n 1, 1) := by decide +kernel
theorem dX0_readFrom_39 : decode cX0_readFrom 39 = .ok (.iconst 0, 1) := by decide +kernel
theorem dX0_readFrom_40 : decode cX0_readFrom 40 = .ok (.putfield 75, 3) := by decide +kernel
theorem dX0_readFrom_43 : decode cX0_readFrom 43 = .ok (.iconst 0, 1) := by decide +kernel
theorem dX0_readFrom_44 : decode cX0_readFrom 44 = .ok (.istore_n 2, 1) := by decide +kernel
theorem dX0_readFrom_45 : decode cX0_readFrom 45 = .ok (.iload_n 2, 1) := by decide +kernel
theorem dX0_readFrom_46 : decode cX0_readFrom 46 = .ok (.sipush 240, 3) := by decide +kernel
theorem dX0_readFrom_49 : decode cX0_readFrom 49 = .ok (.if_icmp .ge 43, 3) := by decide +kernel
theorem dX0_readFrom_52 : decode cX0_readFrom 52 = .ok (.aload_n 0, 1) := by decide +kernel
theorem dX0_readFrom_53 : decode cX0_readFrom 53 = .ok (.aload_n 1, 1) := by decide +kernel
theorem dX0_readFrom_54 : decode cX0_readFrom 54 = .ok (.invokevirtual 80, 3) := by decide +kernel
theorem dX0_readFrom_57 : decode cX0_readFrom 57 = .ok (.ifCond .ne 5, 3) := by decide +kernel
theorem dX0_readFrom_60 : decode cX0_readFrom 60 = .ok (.iconst 0, 1) := by decide +kernel
theorem dX0_readFrom_61 : decode cX0_readFrom 61 = .ok (.ireturn, 1) := by decide +kernel
theorem dX0_readFrom_62 : decode cX0_readFrom 62 = .ok (.aload_n 1, 1) := by decide +kernel
theorem dX0_readFrom_63 : decode cX0_readFrom 63 = .ok (.invokevirtual 84, 3) := by decide +kernel
theorem dX0_readFrom_66 : decode cX0_readFrom 66 = .ok (.iconst (-1), 1) := by decide +kernel
theorem dX0_readFrom_67 : decode cX0_readFrom 67 = .ok (.if_icmp .ne 8, 3) := by decide +kernel
theorem dX0_readFrom_70 : decode cX0_readFrom 70 = .ok (.aload_n 0, 1) := by decide +kernel
theorem dX0_readFrom_71 : decode cX0_readFrom 71 = .ok (.invokevirtual 87, 3) := by decide +kernel
theorem dX0_readFrom_74 : decode cX0_readFrom 74 = .ok (.ireturn, 1) := by decide +kernel
theorem dX0_readFrom_75 : decode cX0_readFrom 75 = .ok (.aload_n 1, 1) := by decide +kernel
theorem dX0_readFrom_76 : decode cX0_readFrom 76 = .ok (.bipush 59, 2) := by decide +kernel
theorem dX0_readFrom_78 : decode cX0_readFrom 78 = .ok (.invokevirtual 91, 3) := by decide +kernel
theorem dX0_readFrom_81 : decode cX0_readFrom 81 = .ok (.ifCond .ne 5, 3) := by decide +kernel
theorem dX0_readFrom_84 : decode cX0_readFrom 84 = .ok (.iconst 0, 1) := by decide +kernel
theorem dX0_readFrom_85 : decode cX0_readFrom 85 = .ok (.ireturn, 1) := by decide +kernel
theorem dX0_readFrom_86 : decode cX0_readFrom 86 = .ok (.iinc 2 1, 3) := by decide +kernel
theorem dX0_readFrom_89 : decode cX0_readFrom 89 = .ok (.goto (-44), 3) := by decide +kernel
theorem dX0_readFrom_92 : decode cX0_readFrom 92 = .ok (.iconst 0, 1) := by decide +kernel
theorem dX0_readFrom_93 : decode cX0_readFrom 93 = .ok (.ireturn, 1) := by decide +kernel
theorem dX0_readClause_0 : decode cX0_readClause 0 = .ok (.aload_n 1, 1) := by decide +kernel
theorem dX0_readClause_1 : decode cX0_readClause 1 = .ok (.invokevirtual 84, 3) := by decide +kernel
theorem dX0_readClause_4 : decode cX0_readClause 4 = .ok (.istore_n 2, 1) := by decide +kernel
theorem dX0_readClause_5 : decode cX0_readClause 5 = .ok (.iload_n 2, 1) := by decide +kernel
theorem dX0_readClause_6 : decode cX0_readClause 6 = .ok (.iconst (-1), 1) := by decide +kernel
theorem dX0_readClause_7 : decode cX0_readClause 7 = .ok (.if_icmp .ne 7, 3) := by decide +kernel
theorem dX0_readClause_10 : decode cX0_readClause 10 = .ok (.iconst (-1), 1) := by decide +kernel
theorem dX0_readClause_11 : decode cX0_readClause 11 = .ok (.goto 10, 3) := by decide +kernel
theorem dX0_readClause_14 : decode cX0_readClause 14 = .ok (.ldc 94, 2) := by decide +kernel
theorem dX0_readClause_16 : decode cX0_readClause 16 = .ok (.iload_n 2, 1) := by decide +kernel
theorem dX0_readClause_17 : decode cX0_readClause 17 = .ok (.i2c, 1) := by decide +kernel
theorem dX0_readClause_18 : decode cX0_readClause 18 = .ok (.invokevirtual 96, 3) := by decide +kernel
theorem dX0_readClause_21 : decode cX0_readClause 21 = .ok (.istore_n 3, 1) := by decide +kernel
theorem dX0_readClause_22 : decode cX0_readClause 22 = .ok (.iload_n 3, 1) := by decide +kernel
theorem dX0_readClause_23 : decode cX0_readClause 23 = .ok (.ifCond .lt 16, 3) := by decide +kernel
theorem dX0_readClause_26 : decode cX0_readClause 26 = .ok (.aload_n 0, 1) := by decide +kernel
theorem dX0_readClause_27 : decode cX0_readClause 27 = .ok (.iload_n 3, 1) := by decide +kernel
theorem dX0_readClause_28 : decode cX0_readClause 28 = .ok (.invokevirtual 100, 3) := by decide +kernel
theorem dX0_readClause_31 : decode cX0_readClause 31 = .ok (.getstatic 103, 3) := by decide +kernel
theorem dX0_readClause_34 : decode cX0_readClause 34 = .ok (.iload_n 3, 1) := by decide +kernel
theorem dX0_readClause_35 : decode cX0_readClause 35 = .ok (.iaload, 1) := by decide +kernel
theorem dX0_readClause_36 : decode cX0_readClause 36 = .ok (.if_icmp .lt 5, 3) := by decide +kernel
theorem dX0_readClause_39 : decode cX0_readClause 39 = .ok (.iconst 0, 1) := by decide +kernel
theorem dX0_readClause_40 : decode cX0_readClause 40 = .ok (.ireturn, 1) := by decide +kernel
theorem dX0_readClause_41 : decode cX0_readClause 41 = .ok (.aload_n 1, 1) := by decide +kernel
theorem dX0_readClause_42 : decode cX0_readClause 42 = .ok (.dup, 1) := by decide +kernel
theorem dX0_readClause_43 : decode cX0_readClause 43 = .ok (.getfield 75, 3) := by decide +kernel
theorem dX0_readClause_46 : decode cX0_readClause 46 = .ok (.iconst 1, 1) := by decide +kernel
theorem dX0_readClause_47 : decode cX0_readClause 47 = .ok (.iadd, 1) := by decide +kernel
theorem dX0_readClause_48 : decode cX0_readClause 48 = .ok (.putfield 75, 3) := by decide +kernel
theorem dX0_readClause_51 : decode cX0_readClause 51 = .ok (.aload_n 0, 1) := by decide +kernel
theorem dX0_readClause_52 : decode cX0_readClause 52 = .ok (.aload_n 1, 1) := by decide +kernel
theorem dX0_readClause_53 : decode cX0_readClause 53 = .ok (.getstatic 106, 3) := by decide +kernel
theorem dX0_readClause_56 : decode cX0_readClause 56 = .ok (.iload_n 3, 1) := by decide +kernel
theorem dX0_readClause_57 : decode cX0_readClause 57 = .ok (.iaload, 1) := by decide +kernel
theorem dX0_readClause_58 : decode cX0_readClause 58 = .ok (.getstatic 106, 3) := by decide +kernel
theorem dX0_readClause_61 : decode cX0_readClause 61 = .ok (.iload_n 3, 1) := by decide +kernel
theorem dX0_readClause_62 : decode cX0_readClause 62 = .ok (.iconst 1, 1) := by decide +kernel
theorem dX0_readClause_63 : decode cX0_readClause 63 = .ok (.iadd, 1) := by decide +kernel
theorem dX0_readClause_64 : decode cX0_readClause 64 = .ok (.iaload, 1) := by decide +kernel
theorem dX0_readClause_65 : decode cX0_readClause 65 = .ok (.invokevirtual 109, 3) := by decide +kernel
theorem dX0_readClause_68 : decode cX0_readClause 68 = .ok (.ifCond .ne 5, 3) := by decide +kernel
theorem dX0_readClause_71 : decode cX0_readClause 71 = .ok (.iconst 0, 1) := by decide +kernel
theorem dX0_readClause_72 : decode cX0_readClause 72 = .ok (.ireturn, 1) := by decide +kernel
theorem dX0_readClause_73 : decode cX0_readClause 73 = .ok (.aload_n 0, 1) := by decide +kernel
theorem dX0_readClause_74 : decode cX0_readClause 74 = .ok (.iload_n 3, 1) := by decide +kernel
theorem dX0_readClause_75 : decode cX0_readClause 75 = .ok (.invokevirtual 113, 3) := by decide +kernel
theorem dX0_readClause_78 : decode cX0_readClause 78 = .ok (.iconst 1, 1) := by decide +kernel
theorem dX0_readClause_79 : decode cX0_readClause 79 = .ok (.ireturn, 1) := by decide +kernel
theorem dX0_clausesOf_0 : decode cX0_clausesOf 0 = .ok (.iload_n 1, 1) := by decide +kernel
theorem dX0_clausesOf_1 : decode cX0_clausesOf 1 = .ok (.tableswitch 42 0 2 #[27, 32, 37], 27) := by decide +kernel
theorem dX0_clausesOf_28 : decode cX0_clausesOf 28 = .ok (.aload_n 0, 1) := by decide +kernel
theorem dX0_clausesOf_29 : decode cX0_clausesOf 29 = .ok (.getfield 69, 3) := by decide +kernel
theorem dX0_clausesOf_32 : decode cX0_clausesOf 32 = .ok (.ireturn, 1) := by decide +kernel
theorem dX0_clausesOf_33 : decode cX0_clausesOf 33 = .ok (.aload_n 0, 1) := by decide +kernel
theorem dX0_clausesOf_34 : decode cX0_clausesOf 34 = .ok (.getfield 40, 3) := by decide +kernel
theorem dX0_clausesOf_37 : decode cX0_clausesOf 37 = .ok (.ireturn, 1) := by decide +kernel
theorem dX0_clausesOf_38 : decode cX0_clausesOf 38 = .ok (.aload_n 0, 1) := by decide +kernel
theorem dX0_clausesOf_39 : decode cX0_clausesOf 39 = .ok (.getfield 48, 3) := by decide +kernel
theorem dX0_clausesOf_42 : decode cX0_clausesOf 42 = .ok (.ireturn, 1) := by decide +kernel
theorem dX0_clausesOf_43 : decode cX0_clausesOf 43 = .ok (.aload_n 0, 1) := by decide +kernel
theorem dX0_clausesOf_44 : decode cX0_clausesOf 44 = .ok (.getfield 51, 3) := by decide +kernel
theorem dX0_clausesOf_47 : decode cX0_clausesOf 47 = .ok (.ireturn, 1) := by decide +kernel
theorem dX0_readItems_0 : decode cX0_readItems 0 = .ok (.iload_n 2, 1) := by decide +kernel
theorem dX0_readItems_1 : decode cX0_readItems 1 = .ok (.istore 4, 2) := by decide +kernel
theorem dX0_readItems_3 : decode cX0_readItems 3 = .ok (.iload 4, 2) := by decide +kernel
theorem dX0_readItems_5 : decode cX0_readItems 5 = .ok (.iload_n 3, 1) := by decide +kernel
theorem dX0_readItems_6 : decode cX0_readItems 6 = .ok (.if_icmp .ge 22, 3) := by decide +kernel
theorem dX0_readItems_9 : decode cX0_readItems 9 = .ok (.aload_n 0, 1) := by decide +kernel
theorem dX0_readItems_10 : decode cX0_readItems 10 = .ok (.getfield 37, 3) := by decide +kernel
theorem dX0_readItems_13 : decode cX0_readItems 13 = .ok (.iload 4, 2) := by decide +kernel
theorem dX0_readItems_15 : decode cX0_readItems 15 = .ok (.getstatic 72, 3) := by decide +kernel
theorem dX0_readItems_18 : decode cX0_readItems 18 = .ok (.iload 4, 2) := by decide +kernel
theorem dX0_readItems_20 : decode cX0_readItems 20 = .ok (.iaload, 1) := by decide +kernel
theorem dX0_readItems_21 : decode cX0_readItems 21 = .ok (.iastore, 1) := by decide +kernel
theorem dX0_readItems_22 : decode cX0_readItems 22 = .ok (.iinc 4 1, 3) := by decide +kernel
theorem dX0_readItems_25 : decode cX0_readItems 25 = .ok (.goto (-22), 3) := by decide +kernel
theorem dX0_readItems_28 : decode cX0_readItems 28 = .ok (.iconst 0, 1) := by decide +kernel
theorem dX0_readItems_29 : decode cX0_readItems 29 = .ok (.istore 4, 2) := by decide +kernel
theorem dX0_readItems_31 : decode cX0_readItems 31 = .ok (.iload_n 2, 1) := by decide +kernel
theorem dX0_readItems_32 : decode cX0_readItems 32 = .ok (.istore 5, 2) := by decide +kernel
theorem dX0_readItems_34 : decode cX0_readItems 34 = .ok (.iload 5, 2) := by decide +kernel
theorem dX0_readItems_36 : decode cX0_readItems 36 = .ok (.iload_n 3, 1) := by decide +kernel
theorem dX0_readItems_37 : decode cX0_readItems 37 = .ok (.if_icmp .gt 88, 3) := by decide +kernel
theorem dX0_readItems_40 : decode cX0_readItems 40 = .ok (.aload_n 1, 1) := by decide +kernel
theorem dX0_readItems_41 : decode cX0_readItems 41 = .ok (.invokevirtual 84, 3) := by decide +kernel
theorem dX0_readItems_44 : decode cX0_readItems 44 = .ok (.istore 6, 2) := by decide +kernel
theorem dX0_readItems_46 : decode cX0_readItems 46 = .ok (.iload 6, 2) := by decide +kernel
theorem dX0_readItems_48 : decode cX0_readItems 48 = .ok (.iconst (-1), 1) := by decide +kernel
theorem dX0_readItems_49 : decode cX0_readItems 49 = .ok (.if_icmp .eq 10, 3) := by decide +kernel
theorem dX0_readItems_52 : decode cX0_readItems 52 = .ok (.iload 6, 2) := by decide +kernel
theorem dX0_readItems_54 : decode cX0_readItems 54 = .ok (.bipush 59, 2) := by decide +kernel
theorem dX0_readItems_56 : decode cX0_readItems 56 = .ok (.if_icmp .ne 5, 3) := by decide +kernel
theorem dX0_readItems_59 : decode cX0_readItems 59 = .ok (.iconst 1, 1) := by decide +kernel
theorem dX0_readItems_60 : decode cX0_readItems 60 = .ok (.ireturn, 1) := by decide +kernel
theorem dX0_readItems_61 : decode cX0_readItems 61 = .ok (.iload 6, 2) := by decide +kernel
theorem dX0_readItems_63 : decode cX0_readItems 63 = .ok (.iload_n 2, 1) := by decide +kernel
theorem dX0_readItems_64 : decode cX0_readItems 64 = .ok (.iload_n 3, 1) := by decide +kernel
theorem dX0_readItems_65 : decode cX0_readItems 65 = .ok (.invokestatic 117, 3) := by decide +kernel
theorem dX0_readItems_68 : decode cX0_readItems 68 = .ok (.istore 7, 2) := by decide +kernel
theorem dX0_readItems_70 : decode cX0_readItems 70 = .ok (.iload 7, 2) := by decide +kernel
theorem dX0_readItems_72 : decode cX0_readItems 72 = .ok (.iconst (-1), 1) := by decide +kernel
theorem dX0_readItems_73 : decode cX0_readItems 73 = .ok (.if_icmp .eq 13, 3) := by decide +kernel
theorem dX0_readItems_76 : decode cX0_readItems 76 = .ok (.iload 4, 2) := by decide +kernel
theorem dX0_readItems_78 : decode cX0_readItems 78 = .ok (.iload 7, 2) := by decide +kernel
theorem dX0_readItems_80 : decode cX0_readItems 80 = .ok (.ishr, 1) := by decide +kernel
theorem dX0_readItems_81 : decode cX0_readItems 81 = .ok (.iconst 1, 1) := by decide +kernel
theorem dX0_readItems_82 : decode cX0_readItems 82 = .ok (.iand, 1) := by decide +kernel
theorem dX0_readItems_83 : decode cX0_readItems 83 = .ok (.ifCond .eq 5, 3) := by decide +kernel
theorem dX0_readItems_86 : decode cX0_readItems 86 = .ok (.iconst 0, 1) := by decide +kernel
theorem dX0_readItems_87 : decode cX0_readItems 87 = .ok (.ireturn, 1) := by decide +kernel
theorem dX0_readItems_88 : decode cX0_readItems 88 = .ok (.iload 4, 2) := by decide +kernel
theorem dX0_readItems_90 : decode cX0_readItems 90 = .ok (.iconst 1, 1) := by decide +kernel
theorem dX0_readItems_91 : decode cX0_readItems 91 = .ok (.iload 7, 2) := by decide +kernel
theorem dX0_readItems_93 : decode cX0_readItems 93 = .ok (.ishl, 1) := by decide +kernel
theorem dX0_readItems_94 : decode cX0_readItems 94 = .ok (.ior, 1) := by decide +kernel
theorem dX0_readItems_95 : decode cX0_readItems 95 = .ok (.istore 4, 2) := by decide +kernel
theorem dX0_readItems_97 : decode cX0_readItems 97 = .ok (.aload_n 1, 1) := by decide +kernel
theorem dX0_readItems_98 : decode cX0_readItems 98 = .ok (.dup, 1) := by decide +kernel
theorem dX0_readItems_99 : decode cX0_readItems 99 = .ok (.getfield 75, 3) := by decide +kernel
theorem dX0_readItems_102 : decode cX0_readItems 102 = .ok (.iconst 1, 1) := by decide +kernel
theorem dX0_readItems_103 : decode cX0_readItems 103 = .ok (.iadd, 1) := by decide +kernel
theorem dX0_readItems_104 : decode cX0_readItems 104 = .ok (.putfield 75, 3) := by decide +kernel
theorem dX0_readItems_107 : decode cX0_readItems 107 = .ok (.aload_n 0, 1) := by decide +kernel
theorem dX0_readItems_108 : decode cX0_readItems 108 = .ok (.aload_n 1, 1) := by decide +kernel
theorem dX0_readItems_109 : decode cX0_readItems 109 = .ok (.iload 7, 2) := by decide +kernel
theorem dX0_readItems_111 : decode cX0_readItems 111 = .ok (.invokevirtual 121, 3) := by decide +kernel
theorem dX0_readItems_114 : decode cX0_readItems 114 = .ok (.ifCond .ne 5, 3) := by decide +kernel
theorem dX0_readItems_117 : decode cX0_readItems 117 = .ok (.iconst 0, 1) := by decide +kernel
theorem dX0_readItems_118 : decode cX0_readItems 118 = .ok (.ireturn, 1) := by decide +kernel
theorem dX0_readItems_119 : decode cX0_readItems 119 = .ok (.iinc 5 1, 3) := by decide +kernel
theorem dX0_readItems_122 : decode cX0_readItems 122 = .ok (.goto (-88), 3) := by decide +kernel
theorem dX0_readItems_125 : decode cX0_readItems 125 = .ok (.iconst 0, 1) := by decide +kernel
theorem dX0_readItems_126 : decode cX0_readItems 126 = .ok (.ireturn, 1) := by decide +kernel
theorem dX0_itemOf_0 : decode cX0_itemOf 0 = .ok (.iload_n 1, 1) := by decide +kernel
theorem dX0_itemOf_1 : decode cX0_itemOf 1 = .ok (.istore_n 3, 1) := by decide +kernel
theorem dX0_itemOf_2 : decode cX0_itemOf 2 = .ok (.iload_n 3, 1) := by decide +kernel
theorem dX0_itemOf_3 : decode cX0_itemOf 3 = .ok (.iload_n 2, 1) := by decide +kernel
theorem dX0_itemOf_4 : decode cX0_itemOf 4 = .ok (.if_icmp .ge 21, 3) := by decide +kernel
theorem dX0_itemOf_7 : decode cX0_itemOf 7 = .ok (.ldc 30, 2) := by decide +kernel
theorem dX0_itemOf_9 : decode cX0_itemOf 9 = .ok (.iload_n 3, 1) := by decide +kernel
theorem dX0_itemOf_10 : decode cX0_itemOf 10 = .ok (.invokevirtual 125, 3) := by decide +kernel
theorem dX0_itemOf_13 : decode cX0_itemOf 13 = .ok (.iload_n 0, 1) := by decide +kernel
theorem dX0_itemOf_14 : decode cX0_itemOf 14 = .ok (.if_icmp .ne 5, 3) := by decide +kernel
theorem dX0_itemOf_17 : decode cX0_itemOf 17 = .ok (.iload_n 3, 1) := by decide +kernel
theorem dX0_itemOf_18 : decode cX0_itemOf 18 = .ok (.ireturn, 1) := by decide +kernel
theorem dX0_itemOf_19 : decode cX0_itemOf 19 = .ok (.iinc 3 1, 3) := by decide +kernel
theorem dX0_itemOf_22 : decode cX0_itemOf 22 = .ok (.goto (-20), 3) := by decide +kernel
theorem dX0_itemOf_25 : decode cX0_itemOf 25 = .ok (.iconst (-1), 1) := by decide +kernel
theorem dX0_itemOf_26 : decode cX0_itemOf 26 = .ok (.ireturn, 1) := by decide +kernel
theorem dX0_readNumber_0 : decode cX0_readNumber 0 = .ok (.aload_n 1, 1) := by decide +kernel
theorem dX0_readNumber_1 : decode cX0_readNumber 1 = .ok (.invokevirtual 84, 3) := by decide +kernel
theorem dX0_readNumber_4 : decode cX0_readNumber 4 = .ok (.invokestatic 129, 3) := by decide +kernel
theorem dX0_readNumber_7 : decode cX0_readNumber 7 = .ok (.ifCond .ne 5, 3) := by decide +kernel
theorem dX0_readNumber_10 : decode cX0_readNumber 10 = .ok (.iconst 0, 1) := by decide +kernel
theorem dX0_readNumber_11 : decode cX0_readNumber 11 = .ok (.ireturn, 1) := by decide +kernel
theorem dX0_readNumber_12 : decode cX0_readNumber 12 = .ok (.aload_n 1, 1) := by decide +kernel
theorem dX0_readNumber_13 : decode cX0_readNumber 13 = .ok (.iconst 2, 1) := by decide +kernel
theorem dX0_readNumber_14 : decode cX0_readNumber 14 = .ok (.invokevirtual 132, 3) := by decide +kernel
theorem dX0_readNumber_17 : decode cX0_readNumber 17 = .ok (.istore_n 3, 1) := by decide +kernel
theorem dX0_readNumber_18 : decode cX0_readNumber 18 = .ok (.iload_n 3, 1) := by decide +kernel
theorem dX0_readNumber_19 : decode cX0_readNumber 19 = .ok (.iconst (-1), 1) := by decide +kernel
theorem dX0_readNumber_20 : decode cX0_readNumber 20 = .ok (.if_icmp .ne 5, 3) := by decide +kernel
theorem dX0_readNumber_23 : decode cX0_readNumber 23 = .ok (.iconst 0, 1) := by decide +kernel
theorem dX0_readNumber_24 : decode cX0_readNumber 24 = .ok (.ireturn, 1) := by decide +kernel
theorem dX0_readNumber_25 : decode cX0_readNumber 25 = .ok (.iload_n 3, 1) := by decide +kernel
theorem dX0_readNumber_26 : decode cX0_readNumber 26 = .ok (.getstatic 135, 3) := by decide +kernel
theorem dX0_readNumber_29 : decode cX0_readNumber 29 = .ok (.iload_n 2, 1) := by decide +kernel
theorem dX0_readNumber_30 : decode cX0_readNumber 30 = .ok (.iaload, 1) := by decide +kernel
theorem dX0_readNumber_31 : decode cX0_readNumber 31 = .ok (.if_icmp .lt 12, 3) := by decide +kernel
theorem dX0_readNumber_34 : decode cX0_readNumber 34 = .ok (.iload_n 3, 1) := by decide +kernel
theorem dX0_readNumber_35 : decode cX0_readNumber 35 = .ok (.getstatic 138, 3) := by decide +kernel
theorem dX0_readNumber_38 : decode cX0_readNumber 38 = .ok (.iload_n 2, 1) := by decide +kernel
theorem dX0_readNumber_39 : decode cX0_readNumber 39 = .ok (.iaload, 1) := by decide +kernel
theorem dX0_readNumber_40 : decode cX0_readNumber 40 = .ok (.if_icmp .le 15, 3) := by decide +kernel
theorem dX0_readNumber_43 : decode cX0_readNumber 43 = .ok (.aload_n 1, 1) := by decide +kernel
theorem dX0_readNumber_44 : decode cX0_readNumber 44 = .ok (.dup, 1) := by decide +kernel
theorem dX0_readNumber_45 : decode cX0_readNumber 45 = .ok (.getfield 75, 3) := by decide +kernel
theorem dX0_readNumber_48 : decode cX0_readNumber 48 = .ok (.iconst 1, 1) := by decide +kernel
theorem dX0_readNumber_49 : decode cX0_readNumber 49 = .ok (.isub, 1) := by decide +kernel
theorem dX0_readNumber_50 : decode cX0_readNumber 50 = .ok (.putfield 75, 3) := by decide +kernel
theorem dX0_readNumber_53 : decode cX0_readNumber 53 = .ok (.iconst 0, 1) := by decide +kernel
theorem dX0_readNumber_54 : decode cX0_readNumber 54 = .ok (.ireturn, 1) := by decide +kernel
theorem dX0_readNumber_55 : decode cX0_readNumber 55 = .ok (.aload_n 0, 1) := by decide +kernel
theorem dX0_readNumber_56 : decode cX0_readNumber 56 = .ok (.getfield 37, 3) := by decide +kernel
theorem dX0_readNumber_59 : decode cX0_readNumber 59 = .ok (.iload_n 2, 1) := by decide +kernel
theorem dX0_readNumber_60 : decode cX0_readNumber 60 = .ok (.iload_n 3, 1) := by decide +kernel
theorem dX0_readNumber_61 : decode cX0_readNumber 61 = .ok (.iastore, 1) := by decide +kernel
theorem dX0_readNumber_62 : decode cX0_readNumber 62 = .ok (.iconst 1, 1) := by decide +kernel
theorem dX0_readNumber_63 : decode cX0_readNumber 63 = .ok (.ireturn, 1) := by decide +kernel
theorem dX0_keepClause_0 : decode cX0_keepClause 0 = .ok (.iload_n 1, 1) := by decide +kernel
theorem dX0_keepClause_1 : decode cX0_keepClause 1 = .ok (.tableswitch 162 0 2 #[27, 60, 88], 27) := by decide +kernel
theorem dX0_keepClause_28 : decode cX0_keepClause 28 = .ok (.aload_n 0, 1) := by decide +kernel
theorem dX0_keepClause_29 : decode cX0_keepClause 29 = .ok (.aload_n 0, 1) := by decide +kernel
theorem dX0_keepClause_30 : decode cX0_keepClause 30 = .ok (.getfield 37, 3) := by decide +kernel
theorem dX0_keepClause_33 : decode cX0_keepClause 33 = .ok (.iconst 0, 1) := by decide +kernel
theorem dX0_keepClause_34 : decode cX0_keepClause 34 = .ok (.iaload, 1) := by decide +kernel
theorem dX0_keepClause_35 : decode cX0_keepClause 35 = .ok (.putfield 57, 3) := by decide +kernel
theorem dX0_keepClause_38 : decode cX0_keepClause 38 = .ok (.aload_n 0, 1) := by decide +kernel
theorem dX0_keepClause_39 : decode cX0_keepClause 39 = .ok (.aload_n 0, 1) := by decide +kernel
theorem dX0_keepClause_40 : decode cX0_keepClause 40 = .ok (.getfield 37, 3) := by decide +kernel
theorem dX0_keepClause_43 : decode cX0_keepClause 43 = .ok (.iconst 1, 1) := by decide +kernel
theorem dX0_keepClause_44 : decode cX0_keepClause 44 = .ok (.iaload, 1) := by decide +kernel
theorem dX0_keepClause_45 : decode cX0_keepClause 45 = .ok (.putfield 60, 3) := by decide +kernel
theorem dX0_keepClause_48 : decode cX0_keepClause 48 = .ok (.aload_n 0, 1) := by decide +kernel
theorem dX0_keepClause_49 : decode cX0_keepClause 49 = .ok (.dup, 1) := by decide +kernel
theorem dX0_keepClause_50 : decode cX0_keepClause 50 = .ok (.getfield 69, 3) := by decide +kernel
theorem dX0_keepClause_53 : decode cX0_keepClause 53 = .ok (.iconst 1, 1) := by decide +kernel
theorem dX0_keepClause_54 : decode cX0_keepClause 54 = .ok (.iadd, 1) := by decide +kernel
theorem dX0_keepClause_55 : decode cX0_keepClause 55 = .ok (.putfield 69, 3) := by decide +kernel
theorem dX0_keepClause_58 : decode cX0_keepClause 58 = .ok (.goto 131, 3) := by decide +kernel
theorem dX0_keepClause_61 : decode cX0_keepClause 61 = .ok (.aload_n 0, 1) := by decide +kernel
theorem dX0_keepClause_62 : decode cX0_keepClause 62 = .ok (.getfield 9, 3) := by decide +kernel
theorem dX0_keepClause_65 : decode cX0_keepClause 65 = .ok (.aload_n 0, 1) := by decide +kernel
theorem dX0_keepClause_66 : decode cX0_keepClause 66 = .ok (.getfield 40, 3) := by decide +kernel
theorem dX0_keepClause_69 : decode cX0_keepClause 69 = .ok (.aload_n 0, 1) := by decide +kernel
theorem dX0_keepClause_70 : decode cX0_keepClause 70 = .ok (.getfield 37, 3) := by decide +kernel
theorem dX0_keepClause_73 : decode cX0_keepClause 73 = .ok (.iconst 2, 1) := by decide +kernel
theorem dX0_keepClause_74 : decode cX0_keepClause 74 = .ok (.iaload, 1) := by decide +kernel
theorem dX0_keepClause_75 : decode cX0_keepClause 75 = .ok (.iastore, 1) := by decide +kernel
theorem dX0_keepClause_76 : decode cX0_keepClause 76 = .ok (.aload_n 0, 1) := by decide +kernel
theorem dX0_keepClause_77 : decode cX0_keepClause 77 = .ok (.dup, 1) := by decide +kernel
theorem dX0_keepClause_78 : decode cX0_keepClause 78 = .ok (.getfield 40, 3) := by decide +kernel
theorem dX0_keepClause_81 : decode cX0_keepClause 81 = .ok (.iconst 1, 1) := by decide +kernel
theorem dX0_keepClause_82 : decode cX0_keepClause 82 = .ok (.iadd, 1) := by decide +kernel
theorem dX0_keepClause_83 : decode cX0_keepClause 83 = .ok (.putfield 40, 3) := by decide +kernel
theorem dX0_keepClause_86 : decode cX0_keepClause 86 = .ok (.goto 103, 3) := by decide +kernel
theorem dX0_keepClause_89 : decode cX0_keepClause 89 = .ok (.aload_n 0, 1) := by decide +kernel
theorem dX0_keepClause_90 : decode cX0_keepClause 90 = .ok (.getfield 15, 3) := by decide +kernel
theorem dX0_keepClause_93 : decode cX0_keepClause 93 = .ok (.aload_n 0, 1) := by decide +kernel
theorem dX0_keepClause_94 : decode cX0_keepClause 94 = .ok (.getfield 48, 3) := by decide +kernel
theorem dX0_keepClause_97 : decode cX0_keepClause 97 = .ok (.aload_n 0, 1) := by decide +kernel
theorem dX0_keepClause_98 : decode cX0_keepClause 98 = .ok (.getfield 37, 3) := by decide +kernel
theorem dX0_keepClause_101 : decode cX0_keepClause 101 = .ok (.iconst 3, 1) := by decide +kernel
theorem dX0_keepClause_102 : decode cX0_keepClause 102 = .ok (.iaload, 1) := by decide +kernel
theorem dX0_keepClause_103 : decode cX0_keepClause 103 = .ok (.iastore, 1) := by decide +kernel
theorem dX0_keepClause_104 : decode cX0_keepClause 104 = .ok (.aload_n 0, 1) := by decide +kernel
theorem dX0_keepClause_105 : decode cX0_keepClause 105 = .ok (.getfield 18, 3) := by decide +kernel
theorem dX0_keepClause_108 : decode cX0_keepClause 108 = .ok (.aload_n 0, 1) := by decide +kernel
theorem dX0_keepClause_109 : decode cX0_keepClause 109 = .ok (.getfield 48, 3) := by decide +kernel
theorem dX0_keepClause_112 : decode cX0_keepClause 112 = .ok (.aload_n 0, 1) := by decide +kernel
theorem dX0_keepClause_113 : decode cX0_keepClause 113 = .ok (.getfield 37, 3) := by decide +kernel
theorem dX0_keepClause_116 : decode cX0_keepClause 116 = .ok (.iconst 4, 1) := by decide +kernel
theorem dX0_keepClause_117 : decode cX0_keepClause 117 = .ok (.iaload, 1) := by decide +kernel
theorem dX0_keepClause_118 : decode cX0_keepClause 118 = .ok (.iastore, 1) := by decide +kernel
theorem dX0_keepClause_119 : decode cX0_keepClause 119 = .ok (.aload_n 0, 1) := by decide +kernel
theorem dX0_keepClause_120 : decode cX0_keepClause 120 = .ok (.getfield 21, 3) := by decide +kernel
theorem dX0_keepClause_123 : decode cX0_keepClause 123 = .ok (.aload_n 0, 1) := by decide +kernel
theorem dX0_keepClause_124 : decode cX0_keepClause 124 = .ok (.getfield 48, 3) := by decide +kernel
theorem dX0_keepClause_127 : decode cX0_keepClause 127 = .ok (.aload_n 0, 1) := by decide +kernel
theorem dX0_keepClause_128 : decode cX0_keepClause 128 = .ok (.getfield 37, 3) := by decide +kernel
theorem dX0_keepClause_131 : decode cX0_keepClause 131 = .ok (.iconst 5, 1) := by decide +kernel
theorem dX0_keepClause_132 : decode cX0_keepClause 132 = .ok (.iaload, 1) := by decide +kernel
theorem dX0_keepClause_133 : decode cX0_keepClause 133 = .ok (.iastore, 1) := by decide +kernel
theorem dX0_keepClause_134 : decode cX0_keepClause 134 = .ok (.aload_n 0, 1) := by decide +kernel
theorem dX0_keepClause_135 : decode cX0_keepClause 135 = .ok (.getfield 24, 3) := by decide +kernel
theorem dX0_keepClause_138 : decode cX0_keepClause 138 = .ok (.aload_n 0, 1) := by decide +kernel
theorem dX0_keepClause_139 : decode cX0_keepClause 139 = .ok (.getfield 48, 3) := by decide +kernel
theorem dX0_keepClause_142 : decode cX0_keepClause 142 = .ok (.aload_n 0, 1) := by decide +kernel
theorem dX0_keepClause_143 : decode cX0_keepClause 143 = .ok (.getfield 37, 3) := by decide +kernel
theorem dX0_keepClause_146 : decode cX0_keepClause 146 = .ok (.bipush 6, 2) := by decide +kernel
theorem dX0_keepClause_148 : decode cX0_keepClause 148 = .ok (.iaload, 1) := by decide +kernel
theorem dX0_keepClause_149 : decode cX0_keepClause 149 = .ok (.iastore, 1) := by decide +kernel
theorem dX0_keepClause_150 : decode cX0_keepClause 150 = .ok (.aload_n 0, 1) := by decide +kernel
theorem dX0_keepClause_151 : decode cX0_keepClause 151 = .ok (.dup, 1) := by decide +kernel
theorem dX0_keepClause_152 : decode cX0_keepClause 152 = .ok (.getfield 48, 3) := by decide +kernel
theorem dX0_keepClause_155 : decode cX0_keepClause 155 = .ok (.iconst 1, 1) := by decide +kernel
theorem dX0_keepClause_156 : decode cX0_keepClause 156 = .ok (.iadd, 1) := by decide +kernel
theorem dX0_keepClause_157 : decode cX0_keepClause 157 = .ok (.putfield 48, 3) := by decide +kernel
theorem dX0_keepClause_160 : decode cX0_keepClause 160 = .ok (.goto 29, 3) := by decide +kernel
theorem dX0_keepClause_163 : decode cX0_keepClause 163 = .ok (.aload_n 0, 1) := by decide +kernel
theorem dX0_keepClause_164 : decode cX0_keepClause 164 = .ok (.getfield 27, 3) := by decide +kernel
theorem dX0_keepClause_167 : decode cX0_keepClause 167 = .ok (.aload_n 0, 1) := by decide +kernel
theorem dX0_keepClause_168 : decode cX0_keepClause 168 = .ok (.getfield 51, 3) := by decide +kernel
theorem dX0_keepClause_171 : decode cX0_keepClause 171 = .ok (.aload_n 0, 1) := by decide +kernel
theorem dX0_keepClause_172 : decode cX0_keepClause 172 = .ok (.getfield 37, 3) := by decide +kernel
theorem dX0_keepClause_175 : decode cX0_keepClause 175 = .ok (.bipush 7, 2) := by decide +kernel
theorem dX0_keepClause_177 : decode cX0_keepClause 177 = .ok (.iaload, 1) := by decide +kernel
theorem dX0_keepClause_178 : decode cX0_keepClause 178 = .ok (.iastore, 1) := by decide +kernel
theorem dX0_keepClause_179 : decode cX0_keepClause 179 = .ok (.aload_n 0, 1) := by decide +kernel
theorem dX0_keepClause_180 : decode cX0_keepClause 180 = .ok (.dup, 1) := by decide +kernel
theorem dX0_keepClause_181 : decode cX0_keepClause 181 = .ok (.getfield 51, 3) := by decide +kernel
theorem dX0_keepClause_184 : decode cX0_keepClause 184 = .ok (.iconst 1, 1) := by decide +kernel
theorem dX0_keepClause_185 : decode cX0_keepClause 185 = .ok (.iadd, 1) := by decide +kernel
theorem dX0_keepClause_186 : decode cX0_keepClause 186 = .ok (.putfield 51, 3) := by decide +kernel
theorem dX0_keepClause_189 : decode cX0_keepClause 189 = .ok (.return_, 1) := by decide +kernel
theorem dX0_isWhole_0 : decode cX0_isWhole 0 = .ok (.aload_n 0, 1) := by decide +kernel
theorem dX0_isWhole_1 : decode cX0_isWhole 1 = .ok (.getfield 40, 3) := by decide +kernel
theorem dX0_isWhole_4 : decode cX0_isWhole 4 = .ok (.iconst 2, 1) := by decide +kernel
theorem dX0_isWhole_5 : decode cX0_isWhole 5 = .ok (.if_icmp .lt 19, 3) := by decide +kernel
theorem dX0_isWhole_8 : decode cX0_isWhole 8 = .ok (.aload_n 0, 1) := by decide +kernel
theorem dX0_isWhole_9 : decode cX0_isWhole 9 = .ok (.getfield 48, 3) := by decide +kernel
theorem dX0_isWhole_12 : decode cX0_isWhole 12 = .ok (.iconst 1, 1) := by decide +kernel
theorem dX0_isWhole_13 : decode cX0_isWhole 13 = .ok (.if_icmp .lt 11, 3) := by decide +kernel
theorem dX0_isWhole_16 : decode cX0_isWhole 16 = .ok (.aload_n 0, 1) := by decide +kernel
theorem dX0_isWhole_17 : decode cX0_isWhole 17 = .ok (.getfield 51, 3) := by decide +kernel
theorem dX0_isWhole_20 : decode cX0_isWhole 20 = .ok (.iconst 1, 1) := by decide +kernel
theorem dX0_isWhole_21 : decode cX0_isWhole 21 = .ok (.if_icmp .ge 5, 3) := by decide +kernel
theorem dX0_isWhole_24 : decode cX0_isWhole 24 = .ok (.iconst 0, 1) := by decide +kernel
theorem dX0_isWhole_25 : decode cX0_isWhole 25 = .ok (.ireturn, 1) := by decide +kernel
theorem dX0_isWhole_26 : decode cX0_isWhole 26 = .ok (.iconst 0, 1) := by decide +kernel
theorem dX0_isWhole_27 : decode cX0_isWhole 27 = .ok (.istore_n 1, 1) := by decide +kernel
theorem dX0_isWhole_28 : decode cX0_isWhole 28 = .ok (.iload_n 1, 1) := by decide +kernel
theorem dX0_isWhole_29 : decode cX0_isWhole 29 = .ok (.aload_n 0, 1) := by decide +kernel
theorem dX0_isWhole_30 : decode cX0_isWhole 30 = .ok (.getfield 48, 3) := by decide +kernel
theorem dX0_isWhole_33 : decode cX0_isWhole 33 = .ok (.if_icmp .ge 45, 3) := by decide +kernel
theorem dX0_isWhole_36 : decode cX0_isWhole 36 = .ok (.aload_n 0, 1) := by decide +kernel
theorem dX0_isWhole_37 : decode cX0_isWhole 37 = .ok (.aload_n 0, 1) := by decide +kernel
theorem dX0_isWhole_38 : decode cX0_isWhole 38 = .ok (.getfield 15, 3) := by decide +kernel
theorem dX0_isWhole_41 : decode cX0_isWhole 41 = .ok (.iload_n 1, 1) := by decide +kernel
theorem dX0_isWhole_42 : decode cX0_isWhole 42 = .ok (.iaload, 1) := by decide +kernel
theorem dX0_isWhole_43 : decode cX0_isWhole 43 = .ok (.aload_n 0, 1) := by decide +kernel
theorem dX0_isWhole_44 : decode cX0_isWhole 44 = .ok (.getfield 18, 3) := by decide +kernel
theorem dX0_isWhole_47 : decode cX0_isWhole 47 = .ok (.iload_n 1, 1) := by decide +kernel
theorem dX0_isWhole_48 : decode cX0_isWhole 48 = .ok (.iaload, 1) := by decide +kernel
theorem dX0_isWhole_49 : decode cX0_isWhole 49 = .ok (.invokevirtual 141, 3) := by decide +kernel
theorem dX0_isWhole_52 : decode cX0_isWhole 52 = .ok (.ifCond .eq 18, 3) := by decide +kernel
theorem dX0_isWhole_55 : decode cX0_isWhole 55 = .ok (.aload_n 0, 1) := by decide +kernel
theorem dX0_isWhole_56 : decode cX0_isWhole 56 = .ok (.getfield 15, 3) := by decide +kernel
theorem dX0_isWhole_59 : decode cX0_isWhole 59 = .ok (.iload_n 1, 1) := by decide +kernel
theorem dX0_isWhole_60 : decode cX0_isWhole 60 = .ok (.iaload, 1) := by decide +kernel
theorem dX0_isWhole_61 : decode cX0_isWhole 61 = .ok (.aload_n 0, 1) := by decide +kernel
theorem dX0_isWhole_62 : decode cX0_isWhole 62 = .ok (.getfield 18, 3) := by decide +kernel
theorem dX0_isWhole_65 : decode cX0_isWhole 65 = .ok (.iload_n 1, 1) := by decide +kernel
theorem dX0_isWhole_66 : decode cX0_isWhole 66 = .ok (.iaload, 1) := by decide +kernel
theorem dX0_isWhole_67 : decode cX0_isWhole 67 = .ok (.if_icmp .ne 5, 3) := by decide +kernel
theorem dX0_isWhole_70 : decode cX0_isWhole 70 = .ok (.iconst 0, 1) := by decide +kernel
theorem dX0_isWhole_71 : decode cX0_isWhole 71 = .ok (.ireturn, 1) := by decide +kernel
theorem dX0_isWhole_72 : decode cX0_isWhole 72 = .ok (.iinc 1 1, 3) := by decide +kernel
theorem dX0_isWhole_75 : decode cX0_isWhole 75 = .ok (.goto (-47), 3) := by decide +kernel
theorem dX0_isWhole_78 : decode cX0_isWhole 78 = .ok (.iconst 0, 1) := by decide +kernel
theorem dX0_isWhole_79 : decode cX0_isWhole 79 = .ok (.istore_n 1, 1) := by decide +kernel
theorem dX0_isWhole_80 : decode cX0_isWhole 80 = .ok (.iload_n 1, 1) := by decide +kernel
theorem dX0_isWhole_81 : decode cX0_isWhole 81 = .ok (.aload_n 0, 1) := by decide +kernel
theorem dX0_isWhole_82 : decode cX0_isWhole 82 = .ok (.getfield 51, 3) := by decide +kernel
theorem dX0_isWhole_85 : decode cX0_isWhole 85 = .ok (.if_icmp .ge 24, 3) := by decide +kernel
theorem dX0_isWhole_88 : decode cX0_isWhole 88 = .ok (.aload_n 0, 1) := by decide +kernel
theorem dX0_isWhole_89 : decode cX0_isWhole 89 = .ok (.aload_n 0, 1) := by decide +kernel
theorem dX0_isWhole_90 : decode cX0_isWhole 90 = .ok (.getfield 27, 3) := by decide +kernel
theorem dX0_isWhole_93 : decode cX0_isWhole 93 = .ok (.iload_n 1, 1) := by decide +kernel
theorem dX0_isWhole_94 : decode cX0_isWhole 94 = .ok (.iaload, 1) := by decide +kernel
theorem dX0_isWhole_95 : decode cX0_isWhole 95 = .ok (.invokevirtual 44, 3) := by decide +kernel
theorem dX0_isWhole_98 : decode cX0_isWhole 98 = .ok (.ifCond .ne 5, 3) := by decide +kernel
theorem dX0_isWhole_101 : decode cX0_isWhole 101 = .ok (.iconst 0, 1) := by decide +kernel
theorem dX0_isWhole_102 : decode cX0_isWhole 102 = .ok (.ireturn, 1) := by decide +kernel
theorem dX0_isWhole_103 : decode cX0_isWhole 103 = .ok (.iinc 1 1, 3) := by decide +kernel
theorem dX0_isWhole_106 : decode cX0_isWhole 106 = .ok (.goto (-26), 3) := by decide +kernel
theorem dX0_isWhole_109 : decode cX0_isWhole 109 = .ok (.iconst 1, 1) := by decide +kernel
theorem dX0_isWhole_110 : decode cX0_isWhole 110 = .ok (.ireturn, 1) := by decide +kernel
theorem dX3_init_0 : decode cX3_init 0 = .ok (.aload_n 0, 1) := by decide +kernel
theorem dX3_init_1 : decode cX3_init 1 = .ok (.invokespecial 3, 3) := by decide +kernel
theorem dX3_init_4 : decode cX3_init 4 = .ok (.aload_n 0, 1) := by decide +kernel
theorem dX3_init_5 : decode cX3_init 5 = .ok (.sipush 240, 3) := by decide +kernel
theorem dX3_init_8 : decode cX3_init 8 = .ok (.newarray .int, 2) := by decide +kernel
theorem dX3_init_10 : decode cX3_init 10 = .ok (.putfield 9, 3) := by decide +kernel
theorem dX3_init_13 : decode cX3_init 13 = .ok (.aload_n 0, 1) := by decide +kernel
theorem dX3_init_14 : decode cX3_init 14 = .ok (.aload_n 1, 1) := by decide +kernel
theorem dX3_init_15 : decode cX3_init 15 = .ok (.putfield 15, 3) := by decide +kernel
theorem dX3_init_18 : decode cX3_init 18 = .ok (.return_, 1) := by decide +kernel
theorem dX3_readLaw_0 : decode cX3_readLaw 0 = .ok (.aload_n 0, 1) := by decide +kernel
theorem dX3_readLaw_1 : decode cX3_readLaw 1 = .ok (.getfield 15, 3) := by decide +kernel
theorem dX3_readLaw_4 : decode cX3_readLaw 4 = .ok (.iconst 0, 1) := by decide +kernel
theorem dX3_readLaw_5 : decode cX3_readLaw 5 = .ok (.putfield 19, 3) := by decide +kernel
theorem dX3_readLaw_8 : decode cX3_readLaw 8 = .ok (.aload_n 0, 1) := by decide +kernel
theorem dX3_readLaw_9 : decode cX3_readLaw 9 = .ok (.iconst 0, 1) := by decide +kernel
theorem dX3_readLaw_10 : decode cX3_readLaw 10 = .ok (.putfield 25, 3) := by decide +kernel
theorem dX3_readLaw_13 : decode cX3_readLaw 13 = .ok (.iconst 0, 1) := by decide +kernel
theorem dX3_readLaw_14 : decode cX3_readLaw 14 = .ok (.istore_n 1, 1) := by decide +kernel
theorem dX3_readLaw_15 : decode cX3_readLaw 15 = .ok (.iload_n 1, 1) := by decide +kernel
theorem dX3_readLaw_16 : decode cX3_readLaw 16 = .ok (.sipush 240, 3) := by decide +kernel
theorem dX3_readLaw_19 : decode cX3_readLaw 19 = .ok (.if_icmp .ge 45, 3) := by decide +kernel
theorem dX3_readLaw_22 : decode cX3_readLaw 22 = .ok (.aload_n 0, 1) := by decide +kernel
theorem dX3_readLaw_23 : decode cX3_readLaw 23 = .ok (.invokevirtual 28, 3) := by decide +kernel
theorem dX3_readLaw_26 : decode cX3_readLaw 26 = .ok (.ifCond .ne 5, 3) := by decide +kernel
theorem dX3_readLaw_29 : decode cX3_readLaw 29 = .ok (.iconst 0, 1) := by decide +kernel
theorem dX3_readLaw_30 : decode cX3_readLaw 30 = .ok (.ireturn, 1) := by decide +kernel
theorem dX3_readLaw_31 : decode cX3_readLaw 31 = .ok (.aload_n 0, 1) := by decide +kernel
theorem dX3_readLaw_32 : decode cX3_readLaw 32 = .ok (.getfield 15, 3) := by decide +kernel
theorem dX3_readLaw_35 : decode cX3_readLaw 35 = .ok (.invokevirtual 32, 3) := by decide +kernel
theorem dX3_readLaw_38 : decode cX3_readLaw 38 = .ok (.iconst (-1), 1) := by decide +kernel
theorem dX3_readLaw_39 : decode cX3_readLaw 39 = .ok (.if_icmp .ne 5, 3) := by decide +kernel
theorem dX3_readLaw_42 : decode cX3_readLaw 42 = .ok (.iconst 1, 1) := by decide +kernel
theorem dX3_readLaw_43 : decode cX3_readLaw 43 = .ok (.ireturn, 1) := by decide +kernel
theorem dX3_readLaw_44 : decode cX3_readLaw 44 = .ok (.aload_n 0, 1) := by decide +kernel
theorem dX3_readLaw_45 : decode cX3_readLaw 45 = .ok (.getfield 15, 3) := by decide +kernel
theorem dX3_readLaw_48 : decode cX3_readLaw 48 = .ok (.bipush 59, 2) := by decide +kernel
theorem dX3_readLaw_50 : decode cX3_readLaw 50 = .ok (.invokevirtual 36, 3) := by decide +kernel
theorem dX3_readLaw_53 : decode cX3_readLaw 53 = .ok (.ifCond .ne 5, 3) := by decide +kernel
theorem dX3_readLaw_56 : decode cX3_readLaw 56 = .ok (.iconst 0, 1) := by decide +kernel
theorem dX3_readLaw_57 : decode cX3_readLaw 57 = .ok (.ireturn, 1) := by decide +kernel
theorem dX3_readLaw_58 : decode cX3_readLaw 58 = .ok (.iinc 1 1, 3) := by decide +kernel
theorem dX3_readLaw_61 : decode cX3_readLaw 61 = .ok (.goto (-46), 3) := by decide +kernel
theorem dX3_readLaw_64 : decode cX3_readLaw 64 = .ok (.iconst 0, 1) := by decide +kernel
theorem dX3_readLaw_65 : decode cX3_readLaw 65 = .ok (.ireturn, 1) := by decide +kernel
theorem dX3_readClause_0 : decode cX3_readClause 0 = .ok (.aload_n 0, 1) := by decide +kernel
theorem dX3_readClause_1 : decode cX3_readClause 1 = .ok (.getfield 15, 3) := by decide +kernel
theorem dX3_readClause_4 : decode cX3_readClause 4 = .ok (.bipush 121, 2) := by decide +kernel
theorem dX3_readClause_6 : decode cX3_readClause 6 = .ok (.invokevirtual 36, 3) := by decide +kernel
theorem dX3_readClause_9 : decode cX3_readClause 9 = .ok (.ifCond .eq 15, 3) := by decide +kernel
theorem dX3_readClause_12 : decode cX3_readClause 12 = .ok (.aload_n 0, 1) := by decide +kernel
theorem dX3_readClause_13 : decode cX3_readClause 13 = .ok (.getfield 15, 3) := by decide +kernel
theorem dX3_readClause_16 : decode cX3_readClause 16 = .ok (.bipush 58, 2) := by decide +kernel
theorem dX3_readClause_18 : decode cX3_readClause 18 = .ok (.invokevirtual 36, 3) := by decide +kernel
theorem dX3_readClause_21 : decode cX3_readClause 21 = .ok (.ifCond .ne 5, 3) := by decide +kernel
theorem dX3_readClause_24 : decode cX3_readClause 24 = .ok (.iconst 0, 1) := by decide +kernel
theorem dX3_readClause_25 : decode cX3_readClause 25 = .ok (.ireturn, 1) := by decide +kernel
theorem dX3_readClause_26 : decode cX3_readClause 26 = .ok (.aload_n 0, 1) := by decide +kernel
theorem dX3_readClause_27 : decode cX3_readClause 27 = .ok (.getfield 15, 3) := by decide +kernel
theorem dX3_readClause_30 : decode cX3_readClause 30 = .ok (.invokevirtual 32, 3) := by decide +kernel
theorem dX3_readClause_33 : decode cX3_readClause 33 = .ok (.istore_n 1, 1) := by decide +kernel
theorem dX3_readClause_34 : decode cX3_readClause 34 = .ok (.iload_n 1, 1) := by decide +kernel
theorem dX3_readClause_35 : decode cX3_readClause 35 = .ok (.bipush 33, 2) := by decide +kernel
theorem dX3_readClause_37 : decode cX3_readClause 37 = .ok (.if_icmp .eq 9, 3) := by decide +kernel
theorem dX3_readClause_40 : decode cX3_readClause 40 = .ok (.iload_n 1, 1) := by decide +kernel
theorem dX3_readClause_41 : decode cX3_readClause 41 = .ok (.bipush 40, 2) := by decide +kernel
theorem dX3_readClause_43 : decode cX3_readClause 43 = .ok (.if_icmp .ne 24, 3) := by decide +kernel
theorem dX3_readClause_46 : decode cX3_readClause 46 = .ok (.aload_n 0, 1) := by decide +kernel
theorem dX3_readClause_47 : decode cX3_readClause 47 = .ok (.iconst 0, 1) := by decide +kernel
theorem dX3_readClause_48 : decode cX3_readClause 48 = .ok (.invokevirtual 40, 3) := by decide +kernel
theorem dX3_readClause_51 : decode cX3_readClause 51 = .ok (.ifCond .eq 14, 3) := by decide +kernel
theorem dX3_readClause_54 : decode cX3_readClause 54 = .ok (.aload_n 0, 1) := by decide +kernel
theorem dX3_readClause_55 : decode cX3_readClause 55 = .ok (.invokevirtual 43, 3) := by decide +kernel
theorem dX3_readClause_58 : decode cX3_readClause 58 = .ok (.ifCond .eq 7, 3) := by decide +kernel
theorem dX3_readClause_61 : decode cX3_readClause 61 = .ok (.iconst 1, 1) := by decide +kernel
theorem dX3_readClause_62 : decode cX3_readClause 62 = .ok (.goto 4, 3) := by decide +kernel
theorem dX3_readClause_65 : decode cX3_readClause 65 = .ok (.iconst 0, 1) := by decide +kernel
theorem dX3_readClause_66 : decode cX3_readClause 66 = .ok (.ireturn, 1) := by decide +kernel
theorem dX3_readClause_67 : decode cX3_readClause 67 = .ok (.aload_n 0, 1) := by decide +kernel
theorem dX3_readClause_68 : decode cX3_readClause 68 = .ok (.iconst 0, 1) := by decide +kernel
theorem dX3_readClause_69 : decode cX3_readClause 69 = .ok (.invokevirtual 46, 3) := by decide +kernel
theorem dX3_readClause_72 : decode cX3_readClause 72 = .ok (.ifCond .ne 5, 3) := by decide +kernel
theorem dX3_readClause_75 : decode cX3_readClause 75 = .ok (.iconst 0, 1) := by decide +kernel
theorem dX3_readClause_76 : decode cX3_readClause 76 = .ok (.ireturn, 1) := by decide +kernel
theorem dX3_readClause_77 : decode cX3_readClause 77 = .ok (.aload_n 0, 1) := by decide +kernel
theorem dX3_readClause_78 : decode cX3_readClause 78 = .ok (.getfield 15, 3) := by decide +kernel
theorem dX3_readClause_81 : decode cX3_readClause 81 = .ok (.invokevirtual 32, 3) := by decide +kernel
theorem dX3_readClause_84 : decode cX3_readClause 84 = .ok (.invokestatic 49, 3) := by decide +kernel
theorem dX3_readClause_87 : decode cX3_readClause 87 = .ok (.ifCond .ne 11, 3) := by decide +kernel
theorem dX3_readClause_90 : decode cX3_readClause 90 = .ok (.aload_n 0, 1) := by decide +kernel
theorem dX3_readClause_91 : decode cX3_readClause 91 = .ok (.sipush 20059, 3) := by decide +kernel
theorem dX3_readClause_94 : decode cX3_readClause 94 = .ok (.invokevirtual 54, 3) := by decide +kernel
theorem dX3_readClause_97 : decode cX3_readClause 97 = .ok (.ireturn, 1) := by decide +kernel
theorem dX3_readClause_98 : decode cX3_readClause 98 = .ok (.aload_n 0, 1) := by decide +kernel
theorem dX3_readClause_99 : decode cX3_readClause 99 = .ok (.iconst 0, 1) := by decide +kernel
theorem dX3_readClause_100 : decode cX3_readClause 100 = .ok (.invokevirtual 57, 3) := by decide +kernel
theorem dX3_readClause_103 : decode cX3_readClause 103 = .ok (.ifCond .eq 22, 3) := by decide +kernel
theorem dX3_readClause_106 : decode cX3_readClause 106 = .ok (.aload_n 0, 1) := by decide +kernel
theorem dX3_readClause_107 : decode cX3_readClause 107 = .ok (.iconst 0, 1) := by decide +kernel
theorem dX3_readClause_108 : decode cX3_readClause 108 = .ok (.invokevirtual 60, 3) := by decide +kernel
theorem dX3_readClause_111 : decode cX3_readClause 111 = .ok (.ifCond .eq 14, 3) := by decide +kernel
theorem dX3_readClause_114 : decode cX3_readClause 114 = .ok (.aload_n 0, 1) := by decide +kernel
theorem dX3_readClause_115 : decode cX3_readClause 115 = .ok (.invokevirtual 43, 3) := by decide +kernel
theorem dX3_readClause_118 : decode cX3_readClause 118 = .ok (.ifCond .eq 7, 3) := by decide +kernel
theorem dX3_readClause_121 : decode cX3_readClause 121 = .ok (.iconst 1, 1) := by decide +kernel
theorem dX3_readClause_122 : decode cX3_readClause 122 = .ok (.goto 4, 3) := by decide +kernel
theorem dX3_readClause_125 : decode cX3_readClause 125 = .ok (.iconst 0, 1) := by decide +kernel
theorem dX3_readClause_126 : decode cX3_readClause 126 = .ok (.ireturn, 1) := by decide +kernel
theorem dX3_readWorth_0 : decode cX3_readWorth 0 = .ok (.aload_n 0, 1) := by decide +kernel
theorem dX3_readWorth_1 : decode cX3_readWorth 1 = .ok (.getfield 15, 3) := by decide +kernel
theorem dX3_readWorth_4 : decode cX3_readWorth 4 = .ok (.bipush 63, 2) := by decide +kernel
theorem dX3_readWorth_6 : decode cX3_readWorth 6 = .ok (.invokevirtual 36, 3) := by decide +kernel
theorem dX3_readWorth_9 : decode cX3_readWorth 9 = .ok (.ifCond .eq 35, 3) := by decide +kernel
theorem dX3_readWorth_12 : decode cX3_readWorth 12 = .ok (.aload_n 0, 1) := by decide +kernel
theorem dX3_readWorth_13 : decode cX3_readWorth 13 = .ok (.sipush 20063, 3) := by decide +kernel
theorem dX3_readWorth_16 : decode cX3_readWorth 16 = .ok (.invokevirtual 54, 3) := by decide +kernel
theorem dX3_readWorth_19 : decode cX3_readWorth 19 = .ok (.ifCond .eq 25, 3) := by decide +kernel
theorem dX3_readWorth_22 : decode cX3_readWorth 22 = .ok (.aload_n 0, 1) := by decide +kernel
theorem dX3_readWorth_23 : decode cX3_readWorth 23 = .ok (.iconst 0, 1) := by decide +kernel
theorem dX3_readWorth_24 : decode cX3_readWorth 24 = .ok (.invokevirtual 46, 3) := by decide +kernel
theorem dX3_readWorth_27 : decode cX3_readWorth 27 = .ok (.ifCond .eq 17, 3) := by decide +kernel
theorem dX3_readWorth_30 : decode cX3_readWorth 30 = .ok (.aload_n 0, 1) := by decide +kernel
theorem dX3_readWorth_31 : decode cX3_readWorth 31 = .ok (.sipush 20059, 3) := by decide +kernel
theorem dX3_readWorth_34 : decode cX3_readWorth 34 = .ok (.invokevirtual 54, 3) := by decide +kernel
theorem dX3_readWorth_37 : decode cX3_readWorth 37 = .ok (.ifCond .eq 7, 3) := by decide +kernel
theorem dX3_readWorth_40 : decode cX3_readWorth 40 = .ok (.iconst 1, 1) := by decide +kernel
theorem dX3_readWorth_41 : decode cX3_readWorth 41 = .ok (.goto 4, 3) := by decide +kernel
theorem dX3_readWorth_44 : decode cX3_readWorth 44 = .ok (.iconst 0, 1) := by decide +kernel
theorem dX3_readWorth_45 : decode cX3_readWorth 45 = .ok (.ireturn, 1) := by decide +kernel
theorem dX3_readCondition_0 : decode cX3_readCondition 0 = .ok (.aload_n 0, 1) := by decide +kernel
theorem dX3_readCondition_1 : decode cX3_readCondition 1 = .ok (.iload_n 1, 1) := by decide +kernel
theorem dX3_readCondition_2 : decode cX3_readCondition 2 = .ok (.invokevirtual 63, 3) := by decide +kernel
theorem dX3_readCondition_5 : decode cX3_readCondition 5 = .ok (.ifCond .eq 15, 3) := by decide +kernel
theorem dX3_readCondition_8 : decode cX3_readCondition 8 = .ok (.aload_n 0, 1) := by decide +kernel
theorem dX3_readCondition_9 : decode cX3_readCondition 9 = .ok (.iload_n 1, 1) := by decide +kernel
theorem dX3_readCondition_10 : decode cX3_readCondition 10 = .ok (.invokevirtual 60, 3) := by decide +kernel
theorem dX3_readCondition_13 : decode cX3_readCondition 13 = .ok (.ifCond .eq 7, 3) := by decide +kernel
theorem dX3_readCondition_16 : decode cX3_readCondition 16 = .ok (.iconst 1, 1) := by decide +kernel
theorem dX3_readCondition_17 : decode cX3_readCondition 17 = .ok (.goto 4, 3) := by decide +kernel
theorem dX3_readCondition_20 : decode cX3_readCondition 20 = .ok (.iconst 0, 1) := by decide +kernel
theorem dX3_readCondition_21 : decode cX3_readCondition 21 = .ok (.ireturn, 1) := by decide +kernel
theorem dX3_goOnCondition_0 : decode cX3_goOnCondition 0 = .ok (.aload_n 0, 1) := by decide +kernel
theorem dX3_goOnCondition_1 : decode cX3_goOnCondition 1 = .ok (.iload_n 1, 1) := by decide +kernel
theorem dX3_goOnCondition_2 : decode cX3_goOnCondition 2 = .ok (.invokevirtual 66, 3) := by decide +kernel
theorem dX3_goOnCondition_5 : decode cX3_goOnCondition 5 = .ok (.ifCond .ne 5, 3) := by decide +kernel
theorem dX3_goOnCondition_8 : decode cX3_goOnCondition 8 = .ok (.iconst 0, 1) := by decide +kernel
theorem dX3_goOnCondition_9 : decode cX3_goOnCondition 9 = .ok (.ireturn, 1) := by decide +kernel
theorem dX3_goOnCondition_10 : decode cX3_goOnCondition 10 = .ok (.iconst 0, 1) := by decide +kernel
theorem dX3_goOnCondition_11 : decode cX3_goOnCondition 11 = .ok (.istore_n 2, 1) := by decide +kernel
theorem dX3_goOnCondition_12 : decode cX3_goOnCondition 12 = .ok (.iload_n 2, 1) := by decide +kernel
theorem dX3_goOnCondition_13 : decode cX3_goOnCondition 13 = .ok (.sipush 240, 3) := by decide +kernel
theorem dX3_goOnCondition_16 : decode cX3_goOnCondition 16 = .ok (.if_icmp .ge 49, 3) := by decide +kernel
theorem dX3_goOnCondition_19 : decode cX3_goOnCondition 19 = .ok (.aload_n 0, 1) := by decide +kernel
theorem dX3_goOnCondition_20 : decode cX3_goOnCondition 20 = .ok (.getfield 15, 3) := by decide +kernel
theorem dX3_goOnCondition_23 : decode cX3_goOnCondition 23 = .ok (.bipush 124, 2) := by decide +kernel
theorem dX3_goOnCondition_25 : decode cX3_goOnCondition 25 = .ok (.invokevirtual 36, 3) := by decide +kernel
theorem dX3_goOnCondition_28 : decode cX3_goOnCondition 28 = .ok (.ifCond .eq 37, 3) := by decide +kernel
theorem dX3_goOnCondition_31 : decode cX3_goOnCondition 31 = .ok (.aload_n 0, 1) := by decide +kernel
theorem dX3_goOnCondition_32 : decode cX3_goOnCondition 32 = .ok (.iload_n 1, 1) := by decide +kernel
theorem dX3_goOnCondition_33 : decode cX3_goOnCondition 33 = .ok (.invokevirtual 63, 3) := by decide +kernel
theorem dX3_goOnCondition_36 : decode cX3_goOnCondition 36 = .ok (.ifCond .eq 21, 3) := by decide +kernel
theorem dX3_goOnCondition_39 : decode cX3_goOnCondition 39 = .ok (.aload_n 0, 1) := by decide +kernel
theorem dX3_goOnCondition_40 : decode cX3_goOnCondition 40 = .ok (.iload_n 1, 1) := by decide +kernel
theorem dX3_goOnCondition_41 : decode cX3_goOnCondition 41 = .ok (.invokevirtual 66, 3) := by decide +kernel
theorem dX3_goOnCondition_44 : decode cX3_goOnCondition 44 = .ok (.ifCond .eq 13, 3) := by decide +kernel
theorem dX3_goOnCondition_47 : decode cX3_goOnCondition 47 = .ok (.aload_n 0, 1) := by decide +kernel
theorem dX3_goOnCondition_48 : decode cX3_goOnCondition 48 = .ok (.sipush 20124, 3) := by decide +kernel
theorem dX3_goOnCondition_51 : decode cX3_goOnCondition 51 = .ok (.invokevirtual 54, 3) := by decide +kernel
theorem dX3_goOnCondition_54 : decode cX3_goOnCondition 54 = .ok (.ifCond .ne 5, 3) := by decide +kernel
theorem dX3_goOnCondition_57 : decode cX3_goOnCondition 57 = .ok (.iconst 0, 1) := by decide +kernel
theorem dX3_goOnCondition_58 : decode cX3_goOnCondition 58 = .ok (.ireturn, 1) := by decide +kernel
theorem dX3_goOnCondition_59 : decode cX3_goOnCondition 59 = .ok (.iinc 2 1, 3) := by decide +kernel
theorem dX3_goOnCondition_62 : decode cX3_goOnCondition 62 = .ok (.goto (-50), 3) := by decide +kernel
theorem dX3_goOnCondition_65 : decode cX3_goOnCondition 65 = .ok (.iconst 1, 1) := by decide +kernel
theorem dX3_goOnCondition_66 : decode cX3_goOnCondition 66 = .ok (.ireturn, 1) := by decide +kernel
theorem dX3_goOnTruth_0 : decode cX3_goOnTruth 0 = .ok (.iconst 0, 1) := by decide +kernel
theorem dX3_goOnTruth_1 : decode cX3_goOnTruth 1 = .ok (.istore_n 2, 1) := by decide +kernel
theorem dX3_goOnTruth_2 : decode cX3_goOnTruth 2 = .ok (.iload_n 2, 1) := by decide +kernel
theorem dX3_goOnTruth_3 : decode cX3_goOnTruth 3 = .ok (.sipush 240, 3) := by decide +kernel
theorem dX3_goOnTruth_6 : decode cX3_goOnTruth 6 = .ok (.if_icmp .ge 41, 3) := by decide +kernel
theorem dX3_goOnTruth_9 : decode cX3_goOnTruth 9 = .ok (.aload_n 0, 1) := by decide +kernel
theorem dX3_goOnTruth_10 : decode cX3_goOnTruth 10 = .ok (.getfield 15, 3) := by decide +kernel
theorem dX3_goOnTruth_13 : decode cX3_goOnTruth 13 = .ok (.bipush 38, 2) := by decide +kernel
theorem dX3_goOnTruth_15 : decode cX3_goOnTruth 15 = .ok (.invokevirtual 36, 3) := by decide +kernel
theorem dX3_goOnTruth_18 : decode cX3_goOnTruth 18 = .ok (.ifCond .eq 29, 3) := by decide +kernel
theorem dX3_goOnTruth_21 : decode cX3_goOnTruth 21 = .ok (.aload_n 0, 1) := by decide +kernel
theorem dX3_goOnTruth_22 : decode cX3_goOnTruth 22 = .ok (.iload_n 1, 1) := by decide +kernel
theorem dX3_goOnTruth_23 : decode cX3_goOnTruth 23 = .ok (.invokevirtual 63, 3) := by decide +kernel
theorem dX3_goOnTruth_26 : decode cX3_goOnTruth 26 = .ok (.ifCond .eq 13, 3) := by decide +kernel
theorem dX3_goOnTruth_29 : decode cX3_goOnTruth 29 = .ok (.aload_n 0, 1) := by decide +kernel
theorem dX3_goOnTruth_30 : decode cX3_goOnTruth 30 = .ok (.sipush 20038, 3) := by decide +kernel
theorem dX3_goOnTruth_33 : decode cX3_goOnTruth 33 = .ok (.invokevirtual 54, 3) := by decide +kernel
theorem dX3_goOnTruth_36 : decode cX3_goOnTruth 36 = .ok (.ifCond .ne 5, 3) := by decide +kernel
theorem dX3_goOnTruth_39 : decode cX3_goOnTruth 39 = .ok (.iconst 0, 1) := by decide +kernel
theorem dX3_goOnTruth_40 : decode cX3_goOnTruth 40 = .ok (.ireturn, 1) := by decide +kernel
theorem dX3_goOnTruth_41 : decode cX3_goOnTruth 41 = .ok (.iinc 2 1, 3) := by decide +kernel
theorem dX3_goOnTruth_44 : decode cX3_goOnTruth 44 = .ok (.goto (-42), 3) := by decide +kernel
theorem dX3_goOnTruth_47 : decode cX3_goOnTruth 47 = .ok (.iconst 1, 1) := by decide +kernel
theorem dX3_goOnTruth_48 : decode cX3_goOnTruth 48 = .ok (.ireturn, 1) := by decide +kernel
theorem dX3_readUnit_0 : decode cX3_readUnit 0 = .ok (.aload_n 0, 1) := by decide +kernel
theorem dX3_readUnit_1 : decode cX3_readUnit 1 = .ok (.getfield 15, 3) := by decide +kernel
theorem dX3_readUnit_4 : decode cX3_readUnit 4 = .ok (.invokevirtual 32, 3) := by decide +kernel
theorem dX3_readUnit_7 : decode cX3_readUnit 7 = .ok (.istore_n 2, 1) := by decide +kernel
theorem dX3_readUnit_8 : decode cX3_readUnit 8 = .ok (.iload_n 2, 1) := by decide +kernel
theorem dX3_readUnit_9 : decode cX3_readUnit 9 = .ok (.bipush 33, 2) := by decide +kernel
theorem dX3_readUnit_11 : decode cX3_readUnit 11 = .ok (.if_icmp .eq 31, 3) := by decide +kernel
theorem dX3_readUnit_14 : decode cX3_readUnit 14 = .ok (.iload_n 2, 1) := by decide +kernel
theorem dX3_readUnit_15 : decode cX3_readUnit 15 = .ok (.bipush 40, 2) := by decide +kernel
theorem dX3_readUnit_17 : decode cX3_readUnit 17 = .ok (.if_icmp .eq 25, 3) := by decide +kernel
theorem dX3_readUnit_20 : decode cX3_readUnit 20 = .ok (.aload_n 0, 1) := by decide +kernel
theorem dX3_readUnit_21 : decode cX3_readUnit 21 = .ok (.iload_n 1, 1) := by decide +kernel
theorem dX3_readUnit_22 : decode cX3_readUnit 22 = .ok (.invokevirtual 46, 3) := by decide +kernel
theorem dX3_readUnit_25 : decode cX3_readUnit 25 = .ok (.ifCond .eq 15, 3) := by decide +kernel
theorem dX3_readUnit_28 : decode cX3_readUnit 28 = .ok (.aload_n 0, 1) := by decide +kernel
theorem dX3_readUnit_29 : decode cX3_readUnit 29 = .ok (.iload_n 1, 1) := by decide +kernel
theorem dX3_readUnit_30 : decode cX3_readUnit 30 = .ok (.invokevirtual 57, 3) := by decide +kernel
theorem dX3_readUnit_33 : decode cX3_readUnit 33 = .ok (.ifCond .eq 7, 3) := by decide +kernel
theorem dX3_readUnit_36 : decode cX3_readUnit 36 = .ok (.iconst 1, 1) := by decide +kernel
theorem dX3_readUnit_37 : decode cX3_readUnit 37 = .ok (.goto 4, 3) := by decide +kernel
theorem dX3_readUnit_40 : decode cX3_readUnit 40 = .ok (.iconst 0, 1) := by decide +kernel
theorem dX3_readUnit_41 : decode cX3_readUnit 41 = .ok (.ireturn, 1) := by decide +kernel
theorem dX3_readUnit_42 : decode cX3_readUnit 42 = .ok (.iload_n 1, 1) := by decide +kernel
theorem dX3_readUnit_43 : decode cX3_readUnit 43 = .ok (.bipush 6, 2) := by decide +kernel
theorem dX3_readUnit_45 : decode cX3_readUnit 45 = .ok (.if_icmp .lt 5, 3) := by decide +kernel
theorem dX3_readUnit_48 : decode cX3_readUnit 48 = .ok (.iconst 0, 1) := by decide +kernel
theorem dX3_readUnit_49 : decode cX3_readUnit 49 = .ok (.ireturn, 1) := by decide +kernel
theorem dX3_readUnit_50 : decode cX3_readUnit 50 = .ok (.aload_n 0, 1) := by decide +kernel
theorem dX3_readUnit_51 : decode cX3_readUnit 51 = .ok (.getfield 15, 3) := by decide +kernel
theorem dX3_readUnit_54 : decode cX3_readUnit 54 = .ok (.dup, 1) := by decide +kernel
theorem dX3_readUnit_55 : decode cX3_readUnit 55 = .ok (.getfield 19, 3) := by decide +kernel
theorem dX3_readUnit_58 : decode cX3_readUnit 58 = .ok (.iconst 1, 1) := by decide +kernel
theorem dX3_readUnit_59 : decode cX3_readUnit 59 = .ok (.iadd, 1) := by decide +kernel
theorem dX3_readUnit_60 : decode cX3_readUnit 60 = .ok (.putfield 19, 3) := by decide +kernel
theorem dX3_readUnit_63 : decode cX3_readUnit 63 = .ok (.iload_n 2, 1) := by decide +kernel
theorem dX3_readUnit_64 : decode cX3_readUnit 64 = .ok (.bipush 33, 2) := by decide +kernel
theorem dX3_readUnit_66 : decode cX3_readUnit 66 = .ok (.if_icmp .ne 29, 3) := by decide +kernel
theorem dX3_readUnit_69 : decode cX3_readUnit 69 = .ok (.aload_n 0, 1) := by decide +kernel
theorem dX3_readUnit_70 : decode cX3_readUnit 70 = .ok (.iload_n 1, 1) := by decide +kernel
theorem dX3_readUnit_71 : decode cX3_readUnit 71 = .ok (.iconst 1, 1) := by decide +kernel
theorem dX3_readUnit_72 : decode cX3_readUnit 72 = .ok (.iadd, 1) := by decide +kernel
theorem dX3_readUnit_73 : decode cX3_readUnit 73 = .ok (.invokevirtual 63, 3) := by decide +kernel
theorem dX3_readUnit_76 : decode cX3_readUnit 76 = .ok (.ifCond .eq 17, 3) := by decide +kernel
theorem dX3_readUnit_79 : decode cX3_readUnit 79 = .ok (.aload_n 0, 1) := by decide +kernel
theorem dX3_readUnit_80 : decode cX3_readUnit 80 = .ok (.sipush 20033, 3) := by decide +kernel
theorem dX3_readUnit_83 : decode cX3_readUnit 83 = .ok (.invokevirtual 54, 3) := by decide +kernel
theorem dX3_readUnit_86 : decode cX3_readUnit 86 = .ok (.ifCond .eq 7, 3) := by decide +kernel
theorem dX3_readUnit_89 : decode cX3_readUnit 89 = .ok (.iconst 1, 1) := by decide +kernel
theorem dX3_readUnit_90 : decode cX3_readUnit 90 = .ok (.goto 4, 3) := by decide +kernel
theorem dX3_readUnit_93 : decode cX3_readUnit 93 = .ok (.iconst 0, 1) := by decide +kernel
theorem dX3_readUnit_94 : decode cX3_readUnit 94 = .ok (.ireturn, 1) := by decide +kernel
theorem dX3_readUnit_95 : decode cX3_readUnit 95 = .ok (.aload_n 0, 1) := by decide +kernel
theorem dX3_readUnit_96 : decode cX3_readUnit 96 = .ok (.iload_n 1, 1) := by decide +kernel
theorem dX3_readUnit_97 : decode cX3_readUnit 97 = .ok (.iconst 1, 1) := by decide +kernel
theorem dX3_readUnit_98 : decode cX3_readUnit 98 = .ok (.iadd, 1) := by decide +kernel
theorem dX3_readUnit_99 : decode cX3_readUnit 99 = .ok (.invokevirtual 40, 3) := by decide +kernel
theorem dX3_readUnit_102 : decode cX3_readUnit 102 = .ok (.ifCond .eq 19, 3) := by decide +kernel
theorem dX3_readUnit_105 : decode cX3_readUnit 105 = .ok (.aload_n 0, 1) := by decide +kernel
theorem dX3_readUnit_106 : decode cX3_readUnit 106 = .ok (.getfield 15, 3) := by decide +kernel
theorem dX3_readUnit_109 : decode cX3_readUnit 109 = .ok (.bipush 41, 2) := by decide +kernel
theorem dX3_readUnit_111 : decode cX3_readUnit 111 = .ok (.invokevirtual 36, 3) := by decide +kernel
theorem dX3_readUnit_114 : decode cX3_readUnit 114 = .ok (.ifCond .eq 7, 3) := by decide +kernel
theorem dX3_readUnit_117 : decode cX3_readUnit 117 = .ok (.iconst 1, 1) := by decide +kernel
theorem dX3_readUnit_118 : decode cX3_readUnit 118 = .ok (.goto 4, 3) := by decide +kernel
theorem dX3_readUnit_121 : decode cX3_readUnit 121 = .ok (.iconst 0, 1) := by decide +kernel
theorem dX3_readUnit_122 : decode cX3_readUnit 122 = .ok (.ireturn, 1) := by decide +kernel
theorem dX3_goOnComparison_0 : decode cX3_goOnComparison 0 = .ok (.aload_n 0, 1) := by decide +kernel
theorem dX3_goOnComparison_1 : decode cX3_goOnComparison 1 = .ok (.getfield 15, 3) := by decide +kernel
theorem dX3_goOnComparison_4 : decode cX3_goOnComparison 4 = .ok (.invokevirtual 32, 3) := by decide +kernel
theorem dX3_goOnComparison_7 : decode cX3_goOnComparison 7 = .ok (.istore_n 2, 1) := by decide +kernel
theorem dX3_goOnComparison_8 : decode cX3_goOnComparison 8 = .ok (.iload_n 2, 1) := by decide +kernel
theorem dX3_goOnComparison_9 : decode cX3_goOnComparison 9 = .ok (.invokestatic 49, 3) := by decide +kernel
theorem dX3_goOnComparison_12 : decode cX3_goOnComparison 12 = .ok (.ifCond .ne 5, 3) := by decide +kernel
theorem dX3_goOnComparison_15 : decode cX3_goOnComparison 15 = .ok (.iconst 0, 1) := by decide +kernel
theorem dX3_goOnComparison_16 : decode cX3_goOnComparison 16 = .ok (.ireturn, 1) := by decide +kernel
theorem dX3_goOnComparison_17 : decode cX3_goOnComparison 17 = .ok (.aload_n 0, 1) := by decide +kernel
theorem dX3_goOnComparison_18 : decode cX3_goOnComparison 18 = .ok (.getfield 15, 3) := by decide +kernel
theorem dX3_goOnComparison_21 : decode cX3_goOnComparison 21 = .ok (.dup, 1) := by decide +kernel
theorem dX3_goOnComparison_22 : decode cX3_goOnComparison 22 = .ok (.getfield 19, 3) := by decide +kernel
theorem dX3_goOnComparison_25 : decode cX3_goOnComparison 25 = .ok (.iconst 1, 1) := by decide +kernel
theorem dX3_goOnComparison_26 : decode cX3_goOnComparison 26 = .ok (.iadd, 1) := by decide +kernel
theorem dX3_goOnComparison_27 : decode cX3_goOnComparison 27 = .ok (.putfield 19, 3) := by decide +kernel
theorem dX3_goOnComparison_30 : decode cX3_goOnComparison 30 = .ok (.aload_n 0, 1) := by decide +kernel
theorem dX3_goOnComparison_31 : decode cX3_goOnComparison 31 = .ok (.iload_n 1, 1) := by decide +kernel
theorem dX3_goOnComparison_32 : decode cX3_goOnComparison 32 = .ok (.invokevirtual 46, 3) := by decide +kernel
theorem dX3_goOnComparison_35 : decode cX3_goOnComparison 35 = .ok (.ifCond .eq 19, 3) := by decide +kernel
theorem dX3_goOnComparison_38 : decode cX3_goOnComparison 38 = .ok (.aload_n 0, 1) := by decide +kernel
theorem dX3_goOnComparison_39 : decode cX3_goOnComparison 39 = .ok (.sipush 20000, 3) := by decide +kernel
theorem dX3_goOnComparison_42 : decode cX3_goOnComparison 42 = .ok (.iload_n 2, 1) := by decide +kernel
theorem dX3_goOnComparison_43 : decode cX3_goOnComparison 43 = .ok (.iadd, 1) := by decide +kernel
theorem dX3_goOnComparison_44 : decode cX3_goOnComparison 44 = .ok (.invokevirtual 54, 3) := by decide +kernel
theorem dX3_goOnComparison_47 : decode cX3_goOnComparison 47 = .ok (.ifCond .eq 7, 3) := by decide +kernel
theorem dX3_goOnComparison_50 : decode cX3_goOnComparison 50 = .ok (.iconst 1, 1) := by decide +kernel
theorem dX3_goOnComparison_51 : decode cX3_goOnComparison 51 = .ok (.goto 4, 3) := by decide +kernel
theorem dX3_goOnComparison_54 : decode cX3_goOnComparison 54 = .ok (.iconst 0, 1) := by decide +kernel
theorem dX3_goOnComparison_55 : decode cX3_goOnComparison 55 = .ok (.ireturn, 1) := by decide +kernel
theorem dX3_isComparison_0 : decode cX3_isComparison 0 = .ok (.iload_n 0, 1) := by decide +kernel
theorem dX3_isComparison_1 : decode cX3_isComparison 1 = .ok (.bipush 61, 2) := by decide +kernel
theorem dX3_isComparison_3 : decode cX3_isComparison 3 = .ok (.if_icmp .eq 15, 3) := by decide +kernel
theorem dX3_isComparison_6 : decode cX3_isComparison 6 = .ok (.iload_n 0, 1) := by decide +kernel
theorem dX3_isComparison_7 : decode cX3_isComparison 7 = .ok (.bipush 60, 2) := by decide +kernel
theorem dX3_isComparison_9 : decode cX3_isComparison 9 = .ok (.if_icmp .eq 9, 3) := by decide +kernel
theorem dX3_isComparison_12 : decode cX3_isComparison 12 = .ok (.iload_n 0, 1) := by decide +kernel
theorem dX3_isComparison_13 : decode cX3_isComparison 13 = .ok (.bipush 62, 2) := by decide +kernel
theorem dX3_isComparison_15 : decode cX3_isComparison 15 = .ok (.if_icmp .ne 7, 3) := by decide +kernel
theorem dX3_isComparison_18 : decode cX3_isComparison 18 = .ok (.iconst 1, 1) := by decide +kernel
theorem dX3_isComparison_19 : decode cX3_isComparison 19 = .ok (.goto 4, 3) := by decide +kernel
theorem dX3_isComparison_22 : decode cX3_isComparison 22 = .ok (.iconst 0, 1) := by decide +kernel
theorem dX3_isComparison_23 : decode cX3_isComparison 23 = .ok (.ireturn, 1) := by decide +kernel
theorem dX3_readSum_0 : decode cX3_readSum 0 = .ok (.aload_n 0, 1) := by decide +kernel
theorem dX3_readSum_1 : decode cX3_readSum 1 = .ok (.iload_n 1, 1) := by decide +kernel
theorem dX3_readSum_2 : decode cX3_readSum 2 = .ok (.invokevirtual 69, 3) := by decide +kernel
theorem dX3_readSum_5 : decode cX3_readSum 5 = .ok (.ifCond .ne 5, 3) := by decide +kernel
theorem dX3_readSum_8 : decode cX3_readSum 8 = .ok (.iconst 0, 1) := by decide +kernel
theorem dX3_readSum_9 : decode cX3_readSum 9 = .ok (.ireturn, 1) := by decide +kernel
theorem dX3_readSum_10 : decode cX3_readSum 10 = .ok (.iconst 0, 1) := by decide +kernel
theorem dX3_readSum_11 : decode cX3_readSum 11 = .ok (.istore_n 2, 1) := by decide +kernel
theorem dX3_readSum_12 : decode cX3_readSum 12 = .ok (.iload_n 2, 1) := by decide +kernel
theorem dX3_readSum_13 : decode cX3_readSum 13 = .ok (.sipush 240, 3) := by decide +kernel
theorem dX3_readSum_16 : decode cX3_readSum 16 = .ok (.if_icmp .ge 66, 3) := by decide +kernel
theorem dX3_readSum_19 : decode cX3_readSum 19 = .ok (.aload_n 0, 1) := by decide +kernel
theorem dX3_readSum_20 : decode cX3_readSum 20 = .ok (.getfield 15, 3) := by decide +kernel
theorem dX3_readSum_23 : decode cX3_readSum 23 = .ok (.invokevirtual 32, 3) := by decide +kernel
theorem dX3_readSum_26 : decode cX3_readSum 26 = .ok (.istore_n 3, 1) := by decide +kernel
theorem dX3_readSum_27 : decode cX3_readSum 27 = .ok (.iload_n 3, 1) := by decide +kernel
theorem dX3_readSum_28 : decode cX3_readSum 28 = .ok (.bipush 43, 2) := by decide +kernel
theorem dX3_readSum_30 : decode cX3_readSum 30 = .ok (.if_icmp .eq 11, 3) := by decide +kernel
theorem dX3_readSum_33 : decode cX3_readSum 33 = .ok (.iload_n 3, 1) := by decide +kernel
theorem dX3_readSum_34 : decode cX3_readSum 34 = .ok (.bipush 45, 2) := by decide +kernel
theorem dX3_readSum_36 : decode cX3_readSum 36 = .ok (.if_icmp .eq 5, 3) := by decide +kernel
theorem dX3_readSum_39 : decode cX3_readSum 39 = .ok (.iconst 1, 1) := by decide +kernel
theorem dX3_readSum_40 : decode cX3_readSum 40 = .ok (.ireturn, 1) := by decide +kernel
theorem dX3_readSum_41 : decode cX3_readSum 41 = .ok (.aload_n 0, 1) := by decide +kernel
theorem dX3_readSum_42 : decode cX3_readSum 42 = .ok (.getfield 15, 3) := by decide +kernel
theorem dX3_readSum_45 : decode cX3_readSum 45 = .ok (.dup, 1) := by decide +kernel
theorem dX3_readSum_46 : decode cX3_readSum 46 = .ok (.getfield 19, 3) := by decide +kernel
theorem dX3_readSum_49 : decode cX3_readSum 49 = .ok (.iconst 1, 1) := by decide +kernel
theorem dX3_readSum_50 : decode cX3_readSum 50 = .ok (.iadd, 1) := by decide +kernel
theorem dX3_readSum_51 : decode cX3_readSum 51 = .ok (.putfield 19, 3) := by decide +kernel
theorem dX3_readSum_54 : decode cX3_readSum 54 = .ok (.aload_n 0, 1) := by decide +kernel
theorem dX3_readSum_55 : decode cX3_readSum 55 = .ok (.iload_n 1, 1) := by decide +kernel
theorem dX3_readSum_56 : decode cX3_readSum 56 = .ok (.invokevirtual 69, 3) := by decide +kernel
theorem dX3_readSum_59 : decode cX3_readSum 59 = .ok (.ifCond .eq 15, 3) := by decide +kernel
theorem dX3_readSum_62 : decode cX3_readSum 62 = .ok (.aload_n 0, 1) := by decide +kernel
theorem dX3_readSum_63 : decode cX3_readSum 63 = .ok (.sipush 20000, 3) := by decide +kernel
theorem dX3_readSum_66 : decode cX3_readSum 66 = .ok (.iload_n 3, 1) := by decide +kernel
theorem dX3_readSum_67 : decode cX3_readSum 67 = .ok (.iadd, 1) := by decide +kernel
theorem dX3_readSum_68 : decode cX3_readSum 68 = .ok (.invokevirtual 54, 3) := by decide +kernel
theorem dX3_readSum_71 : decode cX3_readSum 71 = .ok (.ifCond .ne 5, 3) := by decide +kernel
theorem dX3_readSum_74 : decode cX3_readSum 74 = .ok (.iconst 0, 1) := by decide +kernel
theorem dX3_readSum_75 : decode cX3_readSum 75 = .ok (.ireturn, 1) := by decide +kernel
theorem dX3_readSum_76 : decode cX3_readSum 76 = .ok (.iinc 2 1, 3) := by decide +kernel
theorem dX3_readSum_79 : decode cX3_readSum 79 = .ok (.goto (-67), 3) := by decide +kernel
theorem dX3_readSum_82 : decode cX3_readSum 82 = .ok (.iconst 0, 1) := by decide +kernel
theorem dX3_readSum_83 : decode cX3_readSum 83 = .ok (.ireturn, 1) := by decide +kernel
theorem dX3_readTerm_0 : decode cX3_readTerm 0 = .ok (.aload_n 0, 1) := by decide +kernel
theorem dX3_readTerm_1 : decode cX3_readTerm 1 = .ok (.iload_n 1, 1) := by decide +kernel
theorem dX3_readTerm_2 : decode cX3_readTerm 2 = .ok (.invokevirtual 72, 3) := by decide +kernel
theorem dX3_readTerm_5 : decode cX3_readTerm 5 = .ok (.ifCond .ne 5, 3) := by decide +kernel
theorem dX3_readTerm_8 : decode cX3_readTerm 8 = .ok (.iconst 0, 1) := by decide +kernel
theorem dX3_readTerm_9 : decode cX3_readTerm 9 = .ok (.ireturn, 1) := by decide +kernel
theorem dX3_readTerm_10 : decode cX3_readTerm 10 = .ok (.iconst 0, 1) := by decide +kernel
theorem dX3_readTerm_11 : decode cX3_readTerm 11 = .ok (.istore_n 2, 1) := by decide +kernel
theorem dX3_readTerm_12 : decode cX3_readTerm 12 = .ok (.iload_n 2, 1) := by decide +kernel
theorem dX3_readTerm_13 : decode cX3_readTerm 13 = .ok (.sipush 240, 3) := by decide +kernel
theorem dX3_readTerm_16 : decode cX3_readTerm 16 = .ok (.if_icmp .ge 66, 3) := by decide +kernel
theorem dX3_readTerm_19 : decode cX3_readTerm 19 = .ok (.aload_n 0, 1) := by decide +kernel
theorem dX3_readTerm_20 : decode cX3_readTerm 20 = .ok (.getfield 15, 3) := by decide +kernel
theorem dX3_readTerm_23 : decode cX3_readTerm 23 = .ok (.invokevirtual 32, 3) := by decide +kernel
theorem dX3_readTerm_26 : decode cX3_readTerm 26 = .ok (.istore_n 3, 1) := by decide +kernel
theorem dX3_readTerm_27 : decode cX3_readTerm 27 = .ok (.iload_n 3, 1) := by decide +kernel
theorem dX3_readTerm_28 : decode cX3_readTerm 28 = .ok (.bipush 42, 2) := by decide +kernel
theorem dX3_readTerm_30 : decode cX3_readTerm 30 = .ok (.if_icmp .eq 11, 3) := by decide +kernel
theorem dX3_readTerm_33 : decode cX3_readTerm 33 = .ok (.iload_n 3, 1) := by decide +kernel
theorem dX3_readTerm_34 : decode cX3_readTerm 34 = .ok (.bipush 47, 2) := by decide +kernel
theorem dX3_readTerm_36 : decode cX3_readTerm 36 = .ok (.if_icmp .eq 5, 3) := by decide +kernel
theorem dX3_readTerm_39 : decode cX3_readTerm 39 = .ok (.iconst 1, 1) := by decide +kernel
theorem dX3_readTerm_40 : decode cX3_readTerm 40 = .ok (.ireturn, 1) := by decide +kernel
theorem dX3_readTerm_41 : decode cX3_readTerm 41 = .ok (.aload_n 0, 1) := by decide +kernel
theorem dX3_readTerm_42 : decode cX3_readTerm 42 = .ok (.getfield 15, 3) := by decide +kernel
theorem dX3_readTerm_45 : decode cX3_readTerm 45 = .ok (.dup, 1) := by decide +kernel
theorem dX3_readTerm_46 : decode cX3_readTerm 46 = .ok (.getfield 19, 3) := by decide +kernel
theorem dX3_readTerm_49 : decode cX3_readTerm 49 = .ok (.iconst 1, 1) := by decide +kernel
theorem dX3_readTerm_50 : decode cX3_readTerm 50 = .ok (.iadd, 1) := by decide +kernel
theorem dX3_readTerm_51 : decode cX3_readTerm 51 = .ok (.putfield 19, 3) := by decide +kernel
theorem dX3_readTerm_54 : decode cX3_readTerm 54 = .ok (.aload_n 0, 1) := by decide +kernel
theorem dX3_readTerm_55 : decode cX3_readTerm 55 = .ok (.iload_n 1, 1) := by decide +kernel
theorem dX3_readTerm_56 : decode cX3_readTerm 56 = .ok (.invokevirtual 72, 3) := by decide +kernel
theorem dX3_readTerm_59 : decode cX3_readTerm 59 = .ok (.ifCond .eq 15, 3) := by decide +kernel
theorem dX3_readTerm_62 : decode cX3_readTerm 62 = .ok (.aload_n 0, 1) := by decide +kernel
theorem dX3_readTerm_63 : decode cX3_readTerm 63 = .ok (.sipush 20000, 3) := by decide +kernel
theorem dX3_readTerm_66 : decode cX3_readTerm 66 = .ok (.iload_n 3, 1) := by decide +kernel
theorem dX3_readTerm_67 : decode cX3_readTerm 67 = .ok (.iadd, 1) := by decide +kernel
theorem dX3_readTerm_68 : decode cX3_readTerm 68 = .ok (.invokevirtual 54, 3) := by decide +kernel
theorem dX3_readTerm_71 : decode cX3_readTerm 71 = .ok (.ifCond .ne 5, 3) := by decide +kernel
theorem dX3_readTerm_74 : decode cX3_readTerm 74 = .ok (.iconst 0, 1) := by decide +kernel
theorem dX3_readTerm_75 : decode cX3_readTerm 75 = .ok (.ireturn, 1) := by decide +kernel
theorem dX3_readTerm_76 : decode cX3_readTerm 76 = .ok (.iinc 2 1, 3) := by decide +kernel
theorem dX3_readTerm_79 : decode cX3_readTerm 79 = .ok (.goto (-67), 3) := by decide +kernel
theorem dX3_readTerm_82 : decode cX3_readTerm 82 = .ok (.iconst 0, 1) := by decide +kernel
theorem dX3_readTerm_83 : decode cX3_readTerm 83 = .ok (.ireturn, 1) := by decide +kernel
theorem dX3_readAtom_0 : decode cX3_readAtom 0 = .ok (.aload_n 0, 1) := by decide +kernel
theorem dX3_readAtom_1 : decode cX3_readAtom 1 = .ok (.getfield 15, 3) := by decide +kernel
theorem dX3_readAtom_4 : decode cX3_readAtom 4 = .ok (.invokevirtual 32, 3) := by decide +kernel
theorem dX3_readAtom_7 : decode cX3_readAtom 7 = .ok (.istore_n 2, 1) := by decide +kernel
theorem dX3_readAtom_8 : decode cX3_readAtom 8 = .ok (.iload_n 2, 1) := by decide +kernel
theorem dX3_readAtom_9 : decode cX3_readAtom 9 = .ok (.invokestatic 75, 3) := by decide +kernel
theorem dX3_readAtom_12 : decode cX3_readAtom 12 = .ok (.ifCond .eq 31, 3) := by decide +kernel
theorem dX3_readAtom_15 : decode cX3_readAtom 15 = .ok (.aload_n 0, 1) := by decide +kernel
theorem dX3_readAtom_16 : decode cX3_readAtom 16 = .ok (.getfield 15, 3) := by decide +kernel
theorem dX3_readAtom_19 : decode cX3_readAtom 19 = .ok (.iconst 4, 1) := by decide +kernel
theorem dX3_readAtom_20 : decode cX3_readAtom 20 = .ok (.invokevirtual 78, 3) := by decide +kernel
theorem dX3_readAtom_23 : decode cX3_readAtom 23 = .ok (.istore_n 3, 1) := by decide +kernel
theorem dX3_readAtom_24 : decode cX3_readAtom 24 = .ok (.iload_n 3, 1) := by decide +kernel
theorem dX3_readAtom_25 : decode cX3_readAtom 25 = .ok (.iconst (-1), 1) := by decide +kernel
theorem dX3_readAtom_26 : decode cX3_readAtom 26 = .ok (.if_icmp .eq 15, 3) := by decide +kernel
theorem dX3_readAtom_29 : decode cX3_readAtom 29 = .ok (.aload_n 0, 1) := by decide +kernel
theorem dX3_readAtom_30 : decode cX3_readAtom 30 = .ok (.iload_n 3, 1) := by decide +kernel
theorem dX3_readAtom_31 : decode cX3_readAtom 31 = .ok (.invokevirtual 54, 3) := by decide +kernel
theorem dX3_readAtom_34 : decode cX3_readAtom 34 = .ok (.ifCond .eq 7, 3) := by decide +kernel
theorem dX3_readAtom_37 : decode cX3_readAtom 37 = .ok (.iconst 1, 1) := by decide +kernel
theorem dX3_readAtom_38 : decode cX3_readAtom 38 = .ok (.goto 4, 3) := by decide +kernel
theorem dX3_readAtom_41 : decode cX3_readAtom 41 = .ok (.iconst 0, 1) := by decide +kernel
theorem dX3_readAtom_42 : decode cX3_readAtom 42 = .ok (.ireturn, 1) := by decide +kernel
theorem dX3_readAtom_43 : decode cX3_readAtom 43 = .ok (.iload_n 2, 1) := by decide +kernel
theorem dX3_readAtom_44 : decode cX3_readAtom 44 = .ok (.bipush 91, 2) := by decide +kernel
theorem dX3_readAtom_46 : decode cX3_readAtom 46 = .ok (.if_icmp .ne 63, 3) := by decide +kernel
theorem dX3_readAtom_49 : decode cX3_readAtom 49 = .ok (.iload_n 1, 1) := by decide +kernel
theorem dX3_readAtom_50 : decode cX3_readAtom 50 = .ok (.bipush 6, 2) := by decide +kernel
