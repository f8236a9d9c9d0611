theorem d_La_push_0 : decode c_La_push 0 = .ok (.aload_n 0, 1) := by decide +kernel
theorem d_La_push_1 : decode c_La_push 1 = .ok (.getfield 19, 3) := by decide +kernel
theorem d_La_push_4 : decode c_La_push 4 = .ok (.aload_n 0, 1) := by decide +kernel
theorem d_La_push_5 : decode c_La_push 5 = .ok (.getfield 9, 3) := by decide +kernel
theorem d_La_push_8 : decode c_La_push 8 = .ok (.arraylength, 1) := by decide +kernel
theorem d_La_push_9 : decode c_La_push 9 = .ok (.if_icmp .ge 33, 3) := by decide +kernel
theorem d_La_push_12 : decode c_La_push 12 = .ok (.aload_n 0, 1) := by decide +kernel
theorem d_La_push_13 : decode c_La_push 13 = .ok (.getfield 9, 3) := by decide +kernel
theorem d_La_push_16 : decode c_La_push 16 = .ok (.aload_n 0, 1) := by decide +kernel
theorem d_La_push_17 : decode c_La_push 17 = .ok (.getfield 19, 3) := by decide +kernel
theorem d_La_push_20 : decode c_La_push 20 = .ok (.iload_n 1, 1) := by decide +kernel
theorem d_La_push_21 : decode c_La_push 21 = .ok (.iastore, 1) := by decide +kernel
theorem d_La_push_22 : decode c_La_push 22 = .ok (.aload_n 0, 1) := by decide +kernel
theorem d_La_push_23 : decode c_La_push 23 = .ok (.getfield 15, 3) := by decide +kernel
theorem d_La_push_26 : decode c_La_push 26 = .ok (.aload_n 0, 1) := by decide +kernel
theorem d_La_push_27 : decode c_La_push 27 = .ok (.getfield 19, 3) := by decide +kernel
theorem d_La_push_30 : decode c_La_push 30 = .ok (.iconst 0, 1) := by decide +kernel
theorem d_La_push_31 : decode c_La_push 31 = .ok (.bastore, 1) := by decide +kernel
theorem d_La_push_32 : decode c_La_push 32 = .ok (.aload_n 0, 1) := by decide +kernel
theorem d_La_push_33 : decode c_La_push 33 = .ok (.dup, 1) := by decide +kernel
theorem d_La_push_34 : decode c_La_push 34 = .ok (.getfield 19, 3) := by decide +kernel
theorem d_La_push_37 : decode c_La_push 37 = .ok (.iconst 1, 1) := by decide +kernel
theorem d_La_push_38 : decode c_La_push 38 = .ok (.iadd, 1) := by decide +kernel
theorem d_La_push_39 : decode c_La_push 39 = .ok (.putfield 19, 3) := by decide +kernel
theorem d_La_push_42 : decode c_La_push 42 = .ok (.return_, 1) := by decide +kernel
theorem d_La_pop_0 : decode c_La_pop 0 = .ok (.aload_n 0, 1) := by decide +kernel
theorem d_La_pop_1 : decode c_La_pop 1 = .ok (.getfield 19, 3) := by decide +kernel
theorem d_La_pop_4 : decode c_La_pop 4 = .ok (.ifCond .le 13, 3) := by decide +kernel
theorem d_La_pop_7 : decode c_La_pop 7 = .ok (.aload_n 0, 1) := by decide +kernel
theorem d_La_pop_8 : decode c_La_pop 8 = .ok (.dup, 1) := by decide +kernel
theorem d_La_pop_9 : decode c_La_pop 9 = .ok (.getfield 19, 3) := by decide +kernel
theorem d_La_pop_12 : decode c_La_pop 12 = .ok (.iconst 1, 1) := by decide +kernel
theorem d_La_pop_13 : decode c_La_pop 13 = .ok (.isub, 1) := by decide +kernel
theorem d_La_pop_14 : decode c_La_pop 14 = .ok (.putfield 19, 3) := by decide +kernel
theorem d_La_pop_17 : decode c_La_pop 17 = .ok (.return_, 1) := by decide +kernel
theorem d_La_markAsLoops_0 : decode c_La_markAsLoops 0 = .ok (.iconst 0, 1) := by decide +kernel
theorem d_La_markAsLoops_1 : decode c_La_markAsLoops 1 = .ok (.iload_n 1, 1) := by decide +kernel
theorem d_La_markAsLoops_2 : decode c_La_markAsLoops 2 = .ok (.invokestatic 23, 3) := by decide +kernel
theorem d_La_markAsLoops_5 : decode c_La_markAsLoops 5 = .ok (.istore_n 2, 1) := by decide +kernel
theorem d_La_markAsLoops_6 : decode c_La_markAsLoops 6 = .ok (.iload_n 2, 1) := by decide +kernel
theorem d_La_markAsLoops_7 : decode c_La_markAsLoops 7 = .ok (.aload_n 0, 1) := by decide +kernel
theorem d_La_markAsLoops_8 : decode c_La_markAsLoops 8 = .ok (.getfield 19, 3) := by decide +kernel
theorem d_La_markAsLoops_11 : decode c_La_markAsLoops 11 = .ok (.if_icmp .ge 16, 3) := by decide +kernel
theorem d_La_markAsLoops_14 : decode c_La_markAsLoops 14 = .ok (.aload_n 0, 1) := by decide +kernel
theorem d_La_markAsLoops_15 : decode c_La_markAsLoops 15 = .ok (.getfield 15, 3) := by decide +kernel
theorem d_La_markAsLoops_18 : decode c_La_markAsLoops 18 = .ok (.iload_n 2, 1) := by decide +kernel
theorem d_La_markAsLoops_19 : decode c_La_markAsLoops 19 = .ok (.iconst 1, 1) := by decide +kernel
theorem d_La_markAsLoops_20 : decode c_La_markAsLoops 20 = .ok (.bastore, 1) := by decide +kernel
theorem d_La_markAsLoops_21 : decode c_La_markAsLoops 21 = .ok (.iinc 2 1, 3) := by decide +kernel
theorem d_La_markAsLoops_24 : decode c_La_markAsLoops 24 = .ok (.goto (-18), 3) := by decide +kernel
theorem d_La_markAsLoops_27 : decode c_La_markAsLoops 27 = .ok (.return_, 1) := by decide +kernel
theorem d_La_find_0 : decode c_La_find 0 = .ok (.aload_n 0, 1) := by decide +kernel
theorem d_La_find_1 : decode c_La_find 1 = .ok (.getfield 19, 3) := by decide +kernel
theorem d_La_find_4 : decode c_La_find 4 = .ok (.iconst 1, 1) := by decide +kernel
theorem d_La_find_5 : decode c_La_find 5 = .ok (.isub, 1) := by decide +kernel
theorem d_La_find_6 : decode c_La_find 6 = .ok (.istore_n 3, 1) := by decide +kernel
theorem d_La_find_7 : decode c_La_find 7 = .ok (.iload_n 3, 1) := by decide +kernel
theorem d_La_find_8 : decode c_La_find 8 = .ok (.iconst 0, 1) := by decide +kernel
theorem d_La_find_9 : decode c_La_find 9 = .ok (.iload_n 1, 1) := by decide +kernel
theorem d_La_find_10 : decode c_La_find 10 = .ok (.invokestatic 23, 3) := by decide +kernel
theorem d_La_find_13 : decode c_La_find 13 = .ok (.if_icmp .lt 21, 3) := by decide +kernel
theorem d_La_find_16 : decode c_La_find 16 = .ok (.aload_n 0, 1) := by decide +kernel
theorem d_La_find_17 : decode c_La_find 17 = .ok (.getfield 9, 3) := by decide +kernel
theorem d_La_find_20 : decode c_La_find 20 = .ok (.iload_n 3, 1) := by decide +kernel
theorem d_La_find_21 : decode c_La_find 21 = .ok (.iaload, 1) := by decide +kernel
theorem d_La_find_22 : decode c_La_find 22 = .ok (.iload_n 2, 1) := by decide +kernel
theorem d_La_find_23 : decode c_La_find 23 = .ok (.if_icmp .ne 5, 3) := by decide +kernel
theorem d_La_find_26 : decode c_La_find 26 = .ok (.iload_n 3, 1) := by decide +kernel
theorem d_La_find_27 : decode c_La_find 27 = .ok (.ireturn, 1) := by decide +kernel
theorem d_La_find_28 : decode c_La_find 28 = .ok (.iinc 3 (-1), 3) := by decide +kernel
theorem d_La_find_31 : decode c_La_find 31 = .ok (.goto (-24), 3) := by decide +kernel
theorem d_La_find_34 : decode c_La_find 34 = .ok (.iconst (-1), 1) := by decide +kernel
theorem d_La_find_35 : decode c_La_find 35 = .ok (.ireturn, 1) := by decide +kernel
theorem d_La_ofLoop_0 : decode c_La_ofLoop 0 = .ok (.iload_n 1, 1) := by decide +kernel
theorem d_La_ofLoop_1 : decode c_La_ofLoop 1 = .ok (.ifCond .lt 24, 3) := by decide +kernel
theorem d_La_ofLoop_4 : decode c_La_ofLoop 4 = .ok (.iload_n 1, 1) := by decide +kernel
theorem d_La_ofLoop_5 : decode c_La_ofLoop 5 = .ok (.aload_n 0, 1) := by decide +kernel
theorem d_La_ofLoop_6 : decode c_La_ofLoop 6 = .ok (.getfield 19, 3) := by decide +kernel
theorem d_La_ofLoop_9 : decode c_La_ofLoop 9 = .ok (.if_icmp .ge 16, 3) := by decide +kernel
theorem d_La_ofLoop_12 : decode c_La_ofLoop 12 = .ok (.aload_n 0, 1) := by decide +kernel
theorem d_La_ofLoop_13 : decode c_La_ofLoop 13 = .ok (.getfield 15, 3) := by decide +kernel
theorem d_La_ofLoop_16 : decode c_La_ofLoop 16 = .ok (.iload_n 1, 1) := by decide +kernel
theorem d_La_ofLoop_17 : decode c_La_ofLoop 17 = .ok (.baload, 1) := by decide +kernel
theorem d_La_ofLoop_18 : decode c_La_ofLoop 18 = .ok (.ifCond .eq 7, 3) := by decide +kernel
theorem d_La_ofLoop_21 : decode c_La_ofLoop 21 = .ok (.iconst 1, 1) := by decide +kernel
theorem d_La_ofLoop_22 : decode c_La_ofLoop 22 = .ok (.goto 4, 3) := by decide +kernel
theorem d_La_ofLoop_25 : decode c_La_ofLoop 25 = .ok (.iconst 0, 1) := by decide +kernel
theorem d_La_ofLoop_26 : decode c_La_ofLoop 26 = .ok (.ireturn, 1) := by decide +kernel
theorem d_Pa_init_0 : decode c_Pa_init 0 = .ok (.aload_n 0, 1) := by decide +kernel
theorem d_Pa_init_1 : decode c_Pa_init 1 = .ok (.aload_n 1, 1) := by decide +kernel
theorem d_Pa_init_2 : decode c_Pa_init 2 = .ok (.invokespecial 1, 3) := by decide +kernel
theorem d_Pa_init_5 : decode c_Pa_init 5 = .ok (.aload_n 0, 1) := by decide +kernel
theorem d_Pa_init_6 : decode c_Pa_init 6 = .ok (.new 7, 3) := by decide +kernel
theorem d_Pa_init_9 : decode c_Pa_init 9 = .ok (.dup, 1) := by decide +kernel
theorem d_Pa_init_10 : decode c_Pa_init 10 = .ok (.invokespecial 9, 3) := by decide +kernel
theorem d_Pa_init_13 : decode c_Pa_init 13 = .ok (.putfield 12, 3) := by decide +kernel
theorem d_Pa_init_16 : decode c_Pa_init 16 = .ok (.aload_n 0, 1) := by decide +kernel
theorem d_Pa_init_17 : decode c_Pa_init 17 = .ok (.iconst 0, 1) := by decide +kernel
theorem d_Pa_init_18 : decode c_Pa_init 18 = .ok (.putfield 18, 3) := by decide +kernel
theorem d_Pa_init_21 : decode c_Pa_init 21 = .ok (.aload_n 0, 1) := by decide +kernel
theorem d_Pa_init_22 : decode c_Pa_init 22 = .ok (.aload_n 2, 1) := by decide +kernel
theorem d_Pa_init_23 : decode c_Pa_init 23 = .ok (.putfield 22, 3) := by decide +kernel
theorem d_Pa_init_26 : decode c_Pa_init 26 = .ok (.return_, 1) := by decide +kernel
theorem d_Pa_parse_0 : decode c_Pa_parse 0 = .ok (.aload_n 0, 1) := by decide +kernel
theorem d_Pa_parse_1 : decode c_Pa_parse 1 = .ok (.iconst 0, 1) := by decide +kernel
theorem d_Pa_parse_2 : decode c_Pa_parse 2 = .ok (.putfield 26, 3) := by decide +kernel
theorem d_Pa_parse_5 : decode c_Pa_parse 5 = .ok (.aload_n 0, 1) := by decide +kernel
theorem d_Pa_parse_6 : decode c_Pa_parse 6 = .ok (.iconst 0, 1) := by decide +kernel
theorem d_Pa_parse_7 : decode c_Pa_parse 7 = .ok (.putfield 18, 3) := by decide +kernel
theorem d_Pa_parse_10 : decode c_Pa_parse 10 = .ok (.aload_n 0, 1) := by decide +kernel
theorem d_Pa_parse_11 : decode c_Pa_parse 11 = .ok (.iconst (-1), 1) := by decide +kernel
theorem d_Pa_parse_12 : decode c_Pa_parse 12 = .ok (.putfield 29, 3) := by decide +kernel
theorem d_Pa_parse_15 : decode c_Pa_parse 15 = .ok (.aload_n 0, 1) := by decide +kernel
theorem d_Pa_parse_16 : decode c_Pa_parse 16 = .ok (.new 32, 3) := by decide +kernel
theorem d_Pa_parse_19 : decode c_Pa_parse 19 = .ok (.dup, 1) := by decide +kernel
theorem d_Pa_parse_20 : decode c_Pa_parse 20 = .ok (.iconst 0, 1) := by decide +kernel
theorem d_Pa_parse_21 : decode c_Pa_parse 21 = .ok (.iconst 0, 1) := by decide +kernel
theorem d_Pa_parse_22 : decode c_Pa_parse 22 = .ok (.iconst 0, 1) := by decide +kernel
theorem d_Pa_parse_23 : decode c_Pa_parse 23 = .ok (.invokespecial 34, 3) := by decide +kernel
theorem d_Pa_parse_26 : decode c_Pa_parse 26 = .ok (.putfield 37, 3) := by decide +kernel
theorem d_Pa_parse_29 : decode c_Pa_parse 29 = .ok (.aload_n 0, 1) := by decide +kernel
theorem d_Pa_parse_30 : decode c_Pa_parse 30 = .ok (.getfield 12, 3) := by decide +kernel
theorem d_Pa_parse_33 : decode c_Pa_parse 33 = .ok (.invokevirtual 41, 3) := by decide +kernel
theorem d_Pa_parse_36 : decode c_Pa_parse 36 = .ok (.aload_n 0, 1) := by decide +kernel
theorem d_Pa_parse_37 : decode c_Pa_parse 37 = .ok (.getfield 22, 3) := by decide +kernel
theorem d_Pa_parse_40 : decode c_Pa_parse 40 = .ok (.invokevirtual 44, 3) := by decide +kernel
theorem d_Pa_parse_43 : decode c_Pa_parse 43 = .ok (.aload_n 0, 1) := by decide +kernel
theorem d_Pa_parse_44 : decode c_Pa_parse 44 = .ok (.invokevirtual 47, 3) := by decide +kernel
theorem d_Pa_parse_47 : decode c_Pa_parse 47 = .ok (.goto 9, 3) := by decide +kernel
theorem d_Pa_parse_50 : decode c_Pa_parse 50 = .ok (.astore_n 1, 1) := by decide +kernel
theorem d_Pa_parse_51 : decode c_Pa_parse 51 = .ok (.aload_n 0, 1) := by decide +kernel
theorem d_Pa_parse_52 : decode c_Pa_parse 52 = .ok (.getfield 29, 3) := by decide +kernel
theorem d_Pa_parse_55 : decode c_Pa_parse 55 = .ok (.ireturn, 1) := by decide +kernel
theorem d_Pa_parse_56 : decode c_Pa_parse 56 = .ok (.iconst (-1), 1) := by decide +kernel
theorem d_Pa_parse_57 : decode c_Pa_parse 57 = .ok (.ireturn, 1) := by decide +kernel
theorem d_Pa_program_0 : decode c_Pa_program 0 = .ok (.aload_n 0, 1) := by decide +kernel
theorem d_Pa_program_1 : decode c_Pa_program 1 = .ok (.getfield 22, 3) := by decide +kernel
theorem d_Pa_program_4 : decode c_Pa_program 4 = .ok (.iconst 0, 1) := by decide +kernel
theorem d_Pa_program_5 : decode c_Pa_program 5 = .ok (.iconst 0, 1) := by decide +kernel
theorem d_Pa_program_6 : decode c_Pa_program 6 = .ok (.iconst 0, 1) := by decide +kernel
theorem d_Pa_program_7 : decode c_Pa_program 7 = .ok (.invokevirtual 54, 3) := by decide +kernel
theorem d_Pa_program_10 : decode c_Pa_program 10 = .ok (.istore_n 1, 1) := by decide +kernel
theorem d_Pa_program_11 : decode c_Pa_program 11 = .ok (.iconst 1, 1) := by decide +kernel
theorem d_Pa_program_12 : decode c_Pa_program 12 = .ok (.istore_n 2, 1) := by decide +kernel
theorem d_Pa_program_13 : decode c_Pa_program 13 = .ok (.iconst 0, 1) := by decide +kernel
theorem d_Pa_program_14 : decode c_Pa_program 14 = .ok (.istore_n 3, 1) := by decide +kernel
theorem d_Pa_program_15 : decode c_Pa_program 15 = .ok (.iload_n 3, 1) := by decide +kernel
theorem d_Pa_program_16 : decode c_Pa_program 16 = .ok (.sipush 1000, 3) := by decide +kernel
theorem d_Pa_program_19 : decode c_Pa_program 19 = .ok (.if_icmp .gt 96, 3) := by decide +kernel
theorem d_Pa_program_22 : decode c_Pa_program 22 = .ok (.aload_n 0, 1) := by decide +kernel
theorem d_Pa_program_23 : decode c_Pa_program 23 = .ok (.invokevirtual 60, 3) := by decide +kernel
theorem d_Pa_program_26 : decode c_Pa_program 26 = .ok (.ifCond .ne 89, 3) := by decide +kernel
theorem d_Pa_program_29 : decode c_Pa_program 29 = .ok (.aload_n 0, 1) := by decide +kernel
theorem d_Pa_program_30 : decode c_Pa_program 30 = .ok (.getfield 26, 3) := by decide +kernel
theorem d_Pa_program_33 : decode c_Pa_program 33 = .ok (.istore 4, 2) := by decide +kernel
theorem d_Pa_program_35 : decode c_Pa_program 35 = .ok (.aload_n 0, 1) := by decide +kernel
theorem d_Pa_program_36 : decode c_Pa_program 36 = .ok (.bipush 11, 2) := by decide +kernel
theorem d_Pa_program_38 : decode c_Pa_program 38 = .ok (.invokevirtual 66, 3) := by decide +kernel
theorem d_Pa_program_41 : decode c_Pa_program 41 = .ok (.ifCond .eq 13, 3) := by decide +kernel
theorem d_Pa_program_44 : decode c_Pa_program 44 = .ok (.aload_n 0, 1) := by decide +kernel
theorem d_Pa_program_45 : decode c_Pa_program 45 = .ok (.bipush 24, 2) := by decide +kernel
theorem d_Pa_program_47 : decode c_Pa_program 47 = .ok (.iconst 1, 1) := by decide +kernel
theorem d_Pa_program_48 : decode c_Pa_program 48 = .ok (.invokevirtual 70, 3) := by decide +kernel
theorem d_Pa_program_51 : decode c_Pa_program 51 = .ok (.goto 15, 3) := by decide +kernel
theorem d_Pa_program_54 : decode c_Pa_program 54 = .ok (.aload_n 0, 1) := by decide +kernel
theorem d_Pa_program_55 : decode c_Pa_program 55 = .ok (.iconst 1, 1) := by decide +kernel
theorem d_Pa_program_56 : decode c_Pa_program 56 = .ok (.aload_n 0, 1) := by decide +kernel
theorem d_Pa_program_57 : decode c_Pa_program 57 = .ok (.getfield 12, 3) := by decide +kernel
theorem d_Pa_program_60 : decode c_Pa_program 60 = .ok (.invokevirtual 74, 3) := by decide +kernel
theorem d_Pa_program_63 : decode c_Pa_program 63 = .ok (.invokevirtual 78, 3) := by decide +kernel
theorem d_Pa_program_66 : decode c_Pa_program 66 = .ok (.iload_n 2, 1) := by decide +kernel
theorem d_Pa_program_67 : decode c_Pa_program 67 = .ok (.ifCond .eq 16, 3) := by decide +kernel
theorem d_Pa_program_70 : decode c_Pa_program 70 = .ok (.aload_n 0, 1) := by decide +kernel
theorem d_Pa_program_71 : decode c_Pa_program 71 = .ok (.iload 4, 2) := by decide +kernel
theorem d_Pa_program_73 : decode c_Pa_program 73 = .ok (.invokevirtual 81, 3) := by decide +kernel
theorem d_Pa_program_76 : decode c_Pa_program 76 = .ok (.ifCond .eq 7, 3) := by decide +kernel
theorem d_Pa_program_79 : decode c_Pa_program 79 = .ok (.iconst 1, 1) := by decide +kernel
theorem d_Pa_program_80 : decode c_Pa_program 80 = .ok (.goto 4, 3) := by decide +kernel
theorem d_Pa_program_83 : decode c_Pa_program 83 = .ok (.iconst 0, 1) := by decide +kernel
theorem d_Pa_program_84 : decode c_Pa_program 84 = .ok (.istore_n 2, 1) := by decide +kernel
theorem d_Pa_program_85 : decode c_Pa_program 85 = .ok (.iload_n 2, 1) := by decide +kernel
theorem d_Pa_program_86 : decode c_Pa_program 86 = .ok (.ifCond .eq 23, 3) := by decide +kernel
theorem d_Pa_program_89 : decode c_Pa_program 89 = .ok (.aload_n 0, 1) := by decide +kernel
theorem d_Pa_program_90 : decode c_Pa_program 90 = .ok (.getfield 84, 3) := by decide +kernel
theorem d_Pa_program_93 : decode c_Pa_program 93 = .ok (.iload 4, 2) := by decide +kernel
theorem d_Pa_program_95 : decode c_Pa_program 95 = .ok (.invokevirtual 88, 3) := by decide +kernel
theorem d_Pa_program_98 : decode c_Pa_program 98 = .ok (.ifCond .eq 11, 3) := by decide +kernel
theorem d_Pa_program_101 : decode c_Pa_program 101 = .ok (.aload_n 0, 1) := by decide +kernel
theorem d_Pa_program_102 : decode c_Pa_program 102 = .ok (.getfield 37, 3) := by decide +kernel
theorem d_Pa_program_105 : decode c_Pa_program 105 = .ok (.iconst 1, 1) := by decide +kernel
theorem d_Pa_program_106 : decode c_Pa_program 106 = .ok (.putfield 91, 3) := by decide +kernel
theorem d_Pa_program_109 : decode c_Pa_program 109 = .ok (.iinc 3 1, 3) := by decide +kernel
theorem d_Pa_program_112 : decode c_Pa_program 112 = .ok (.goto (-97), 3) := by decide +kernel
theorem d_Pa_program_115 : decode c_Pa_program 115 = .ok (.aload_n 0, 1) := by decide +kernel
theorem d_Pa_program_116 : decode c_Pa_program 116 = .ok (.getfield 22, 3) := by decide +kernel
theorem d_Pa_program_119 : decode c_Pa_program 119 = .ok (.iload_n 1, 1) := by decide +kernel
theorem d_Pa_program_120 : decode c_Pa_program 120 = .ok (.aload_n 0, 1) := by decide +kernel
theorem d_Pa_program_121 : decode c_Pa_program 121 = .ok (.getfield 37, 3) := by decide +kernel
theorem d_Pa_program_124 : decode c_Pa_program 124 = .ok (.getfield 91, 3) := by decide +kernel
theorem d_Pa_program_127 : decode c_Pa_program 127 = .ok (.ifCond .eq 7, 3) := by decide +kernel
theorem d_Pa_program_130 : decode c_Pa_program 130 = .ok (.iconst 1, 1) := by decide +kernel
theorem d_Pa_program_131 : decode c_Pa_program 131 = .ok (.goto 4, 3) := by decide +kernel
theorem d_Pa_program_134 : decode c_Pa_program 134 = .ok (.iconst 0, 1) := by decide +kernel
theorem d_Pa_program_135 : decode c_Pa_program 135 = .ok (.invokevirtual 95, 3) := by decide +kernel
theorem d_Pa_program_138 : decode c_Pa_program 138 = .ok (.aload_n 0, 1) := by decide +kernel
theorem d_Pa_program_139 : decode c_Pa_program 139 = .ok (.getfield 22, 3) := by decide +kernel
theorem d_Pa_program_142 : decode c_Pa_program 142 = .ok (.iload_n 1, 1) := by decide +kernel
theorem d_Pa_program_143 : decode c_Pa_program 143 = .ok (.invokevirtual 98, 3) := by decide +kernel
theorem d_Pa_program_146 : decode c_Pa_program 146 = .ok (.return_, 1) := by decide +kernel
theorem d_Pa_function_0 : decode c_Pa_function 0 = .ok (.aload_n 0, 1) := by decide +kernel
theorem d_Pa_function_1 : decode c_Pa_function 1 = .ok (.iload_n 2, 1) := by decide +kernel
theorem d_Pa_function_2 : decode c_Pa_function 2 = .ok (.invokevirtual 102, 3) := by decide +kernel
theorem d_Pa_function_5 : decode c_Pa_function 5 = .ok (.aload_n 0, 1) := by decide +kernel
theorem d_Pa_function_6 : decode c_Pa_function 6 = .ok (.iload_n 1, 1) := by decide +kernel
theorem d_Pa_function_7 : decode c_Pa_function 7 = .ok (.invokevirtual 105, 3) := by decide +kernel
theorem d_Pa_function_10 : decode c_Pa_function 10 = .ok (.istore_n 3, 1) := by decide +kernel
theorem d_Pa_function_11 : decode c_Pa_function 11 = .ok (.aload_n 0, 1) := by decide +kernel
theorem d_Pa_function_12 : decode c_Pa_function 12 = .ok (.iload_n 3, 1) := by decide +kernel
theorem d_Pa_function_13 : decode c_Pa_function 13 = .ok (.iload_n 1, 1) := by decide +kernel
theorem d_Pa_function_14 : decode c_Pa_function 14 = .ok (.invokevirtual 109, 3) := by decide +kernel
theorem d_Pa_function_17 : decode c_Pa_function 17 = .ok (.aload_n 0, 1) := by decide +kernel
theorem d_Pa_function_18 : decode c_Pa_function 18 = .ok (.getfield 26, 3) := by decide +kernel
theorem d_Pa_function_21 : decode c_Pa_function 21 = .ok (.istore 4, 2) := by decide +kernel
theorem d_Pa_function_23 : decode c_Pa_function 23 = .ok (.aload_n 0, 1) := by decide +kernel
theorem d_Pa_function_24 : decode c_Pa_function 24 = .ok (.bipush 64, 2) := by decide +kernel
theorem d_Pa_function_26 : decode c_Pa_function 26 = .ok (.invokevirtual 114, 3) := by decide +kernel
theorem d_Pa_function_29 : decode c_Pa_function 29 = .ok (.aload_n 0, 1) := by decide +kernel
theorem d_Pa_function_30 : decode c_Pa_function 30 = .ok (.getfield 22, 3) := by decide +kernel
theorem d_Pa_function_33 : decode c_Pa_function 33 = .ok (.bipush 26, 2) := by decide +kernel
theorem d_Pa_function_35 : decode c_Pa_function 35 = .ok (.iconst 0, 1) := by decide +kernel
theorem d_Pa_function_36 : decode c_Pa_function 36 = .ok (.iload 4, 2) := by decide +kernel
theorem d_Pa_function_38 : decode c_Pa_function 38 = .ok (.invokevirtual 54, 3) := by decide +kernel
theorem d_Pa_function_41 : decode c_Pa_function 41 = .ok (.istore 5, 2) := by decide +kernel
theorem d_Pa_function_43 : decode c_Pa_function 43 = .ok (.aload_n 0, 1) := by decide +kernel
theorem d_Pa_function_44 : decode c_Pa_function 44 = .ok (.getfield 37, 3) := by decide +kernel
theorem d_Pa_function_47 : decode c_Pa_function 47 = .ok (.astore 6, 2) := by decide +kernel
theorem d_Pa_function_49 : decode c_Pa_function 49 = .ok (.aload_n 0, 1) := by decide +kernel
theorem d_Pa_function_50 : decode c_Pa_function 50 = .ok (.new 32, 3) := by decide +kernel
theorem d_Pa_function_53 : decode c_Pa_function 53 = .ok (.dup, 1) := by decide +kernel
theorem d_Pa_function_54 : decode c_Pa_function 54 = .ok (.iconst 1, 1) := by decide +kernel
theorem d_Pa_function_55 : decode c_Pa_function 55 = .ok (.aload 6, 2) := by decide +kernel
theorem d_Pa_function_57 : decode c_Pa_function 57 = .ok (.getfield 91, 3) := by decide +kernel
theorem d_Pa_function_60 : decode c_Pa_function 60 = .ok (.aload_n 0, 1) := by decide +kernel
theorem d_Pa_function_61 : decode c_Pa_function 61 = .ok (.getfield 12, 3) := by decide +kernel
theorem d_Pa_function_64 : decode c_Pa_function 64 = .ok (.invokevirtual 74, 3) := by decide +kernel
theorem d_Pa_function_67 : decode c_Pa_function 67 = .ok (.invokespecial 34, 3) := by decide +kernel
theorem d_Pa_function_70 : decode c_Pa_function 70 = .ok (.putfield 37, 3) := by decide +kernel
theorem d_Pa_function_73 : decode c_Pa_function 73 = .ok (.iconst 1, 1) := by decide +kernel
theorem d_Pa_function_74 : decode c_Pa_function 74 = .ok (.istore 7, 2) := by decide +kernel
theorem d_Pa_function_76 : decode c_Pa_function 76 = .ok (.iconst 0, 1) := by decide +kernel
theorem d_Pa_function_77 : decode c_Pa_function 77 = .ok (.istore 8, 2) := by decide +kernel
theorem d_Pa_function_79 : decode c_Pa_function 79 = .ok (.iload 8, 2) := by decide +kernel
theorem d_Pa_function_81 : decode c_Pa_function 81 = .ok (.sipush 1000, 3) := by decide +kernel
theorem d_Pa_function_84 : decode c_Pa_function 84 = .ok (.if_icmp .gt 104, 3) := by decide +kernel
theorem d_Pa_function_87 : decode c_Pa_function 87 = .ok (.aload_n 0, 1) := by decide +kernel
theorem d_Pa_function_88 : decode c_Pa_function 88 = .ok (.bipush 65, 2) := by decide +kernel
theorem d_Pa_function_90 : decode c_Pa_function 90 = .ok (.invokevirtual 117, 3) := by decide +kernel
theorem d_Pa_function_93 : decode c_Pa_function 93 = .ok (.ifCond .ne 95, 3) := by decide +kernel
theorem d_Pa_function_96 : decode c_Pa_function 96 = .ok (.aload_n 0, 1) := by decide +kernel
theorem d_Pa_function_97 : decode c_Pa_function 97 = .ok (.getfield 26, 3) := by decide +kernel
theorem d_Pa_function_100 : decode c_Pa_function 100 = .ok (.istore 9, 2) := by decide +kernel
theorem d_Pa_function_102 : decode c_Pa_function 102 = .ok (.aload_n 0, 1) := by decide +kernel
theorem d_Pa_function_103 : decode c_Pa_function 103 = .ok (.bipush 11, 2) := by decide +kernel
theorem d_Pa_function_105 : decode c_Pa_function 105 = .ok (.invokevirtual 66, 3) := by decide +kernel
theorem d_Pa_function_108 : decode c_Pa_function 108 = .ok (.ifCond .eq 15, 3) := by decide +kernel
theorem d_Pa_function_111 : decode c_Pa_function 111 = .ok (.aload_n 0, 1) := by decide +kernel
theorem d_Pa_function_112 : decode c_Pa_function 112 = .ok (.bipush 24, 2) := by decide +kernel
theorem d_Pa_function_114 : decode c_Pa_function 114 = .ok (.iload_n 2, 1) := by decide +kernel
theorem d_Pa_function_115 : decode c_Pa_function 115 = .ok (.iconst 1, 1) := by decide +kernel
theorem d_Pa_function_116 : decode c_Pa_function 116 = .ok (.iadd, 1) := by decide +kernel
theorem d_Pa_function_117 : decode c_Pa_function 117 = .ok (.invokevirtual 70, 3) := by decide +kernel
theorem d_Pa_function_120 : decode c_Pa_function 120 = .ok (.goto 17, 3) := by decide +kernel
theorem d_Pa_function_123 : decode c_Pa_function 123 = .ok (.aload_n 0, 1) := by decide +kernel
theorem d_Pa_function_124 : decode c_Pa_function 124 = .ok (.iload_n 2, 1) := by decide +kernel
theorem d_Pa_function_125 : decode c_Pa_function 125 = .ok (.iconst 1, 1) := by decide +kernel
theorem d_Pa_function_126 : decode c_Pa_function 126 = .ok (.iadd, 1) := by decide +kernel
theorem d_Pa_function_127 : decode c_Pa_function 127 = .ok (.aload_n 0, 1) := by decide +kernel
theorem d_Pa_function_128 : decode c_Pa_function 128 = .ok (.getfield 12, 3) := by decide +kernel
theorem d_Pa_function_131 : decode c_Pa_function 131 = .ok (.invokevirtual 74, 3) := by decide +kernel
theorem d_Pa_function_134 : decode c_Pa_function 134 = .ok (.invokevirtual 78, 3) := by decide +kernel
theorem d_Pa_function_137 : decode c_Pa_function 137 = .ok (.iload 7, 2) := by decide +kernel
theorem d_Pa_function_139 : decode c_Pa_function 139 = .ok (.ifCond .eq 16, 3) := by decide +kernel
theorem d_Pa_function_142 : decode c_Pa_function 142 = .ok (.aload_n 0, 1) := by decide +kernel
theorem d_Pa_function_143 : decode c_Pa_function 143 = .ok (.iload 9, 2) := by decide +kernel
theorem d_Pa_function_145 : decode c_Pa_function 145 = .ok (.invokevirtual 81, 3) := by decide +kernel
theorem d_Pa_function_148 : decode c_Pa_function 148 = .ok (.ifCond .eq 7, 3) := by decide +kernel
theorem d_Pa_function_151 : decode c_Pa_function 151 = .ok (.iconst 1, 1) := by decide +kernel
theorem d_Pa_function_152 : decode c_Pa_function 152 = .ok (.goto 4, 3) := by decide +kernel
theorem d_Pa_function_155 : decode c_Pa_function 155 = .ok (.iconst 0, 1) := by decide +kernel
theorem d_Pa_function_156 : decode c_Pa_function 156 = .ok (.istore 7, 2) := by decide +kernel
theorem d_Pa_function_158 : decode c_Pa_function 158 = .ok (.iload 7, 2) := by decide +kernel
theorem d_Pa_function_160 : decode c_Pa_function 160 = .ok (.ifCond .eq 22, 3) := by decide +kernel
theorem d_Pa_function_163 : decode c_Pa_function 163 = .ok (.aload_n 0, 1) := by decide +kernel
theorem d_Pa_function_164 : decode c_Pa_function 164 = .ok (.getfield 84, 3) := by decide +kernel
theorem d_Pa_function_167 : decode c_Pa_function 167 = .ok (.iload 9, 2) := by decide +kernel
theorem d_Pa_function_169 : decode c_Pa_function 169 = .ok (.invokevirtual 88, 3) := by decide +kernel
theorem d_Pa_function_172 : decode c_Pa_function 172 = .ok (.ifCond .eq 10, 3) := by decide +kernel
theorem d_Pa_function_175 : decode c_Pa_function 175 = .ok (.aload_n 0, 1) := by decide +kernel
theorem d_Pa_function_176 : decode c_Pa_function 176 = .ok (.iload_n 3, 1) := by decide +kernel
theorem d_Pa_function_177 : decode c_Pa_function 177 = .ok (.iload 5, 2) := by decide +kernel
theorem d_Pa_function_179 : decode c_Pa_function 179 = .ok (.invokevirtual 120, 3) := by decide +kernel
theorem d_Pa_function_182 : decode c_Pa_function 182 = .ok (.iinc 8 1, 3) := by decide +kernel
theorem d_Pa_function_185 : decode c_Pa_function 185 = .ok (.goto (-106), 3) := by decide +kernel
theorem d_Pa_function_188 : decode c_Pa_function 188 = .ok (.aload_n 0, 1) := by decide +kernel
theorem d_Pa_function_189 : decode c_Pa_function 189 = .ok (.getfield 22, 3) := by decide +kernel
theorem d_Pa_function_192 : decode c_Pa_function 192 = .ok (.iload 5, 2) := by decide +kernel
theorem d_Pa_function_194 : decode c_Pa_function 194 = .ok (.aload_n 0, 1) := by decide +kernel
theorem d_Pa_function_195 : decode c_Pa_function 195 = .ok (.getfield 37, 3) := by decide +kernel
theorem d_Pa_function_198 : decode c_Pa_function 198 = .ok (.getfield 91, 3) := by decide +kernel
theorem d_Pa_function_201 : decode c_Pa_function 201 = .ok (.ifCond .eq 7, 3) := by decide +kernel
theorem d_Pa_function_204 : decode c_Pa_function 204 = .ok (.iconst 1, 1) := by decide +kernel
theorem d_Pa_function_205 : decode c_Pa_function 205 = .ok (.goto 4, 3) := by decide +kernel
theorem d_Pa_function_208 : decode c_Pa_function 208 = .ok (.iconst 0, 1) := by decide +kernel
theorem d_Pa_function_209 : decode c_Pa_function 209 = .ok (.invokevirtual 95, 3) := by decide +kernel
theorem d_Pa_function_212 : decode c_Pa_function 212 = .ok (.aload_n 0, 1) := by decide +kernel
theorem d_Pa_function_213 : decode c_Pa_function 213 = .ok (.aload 6, 2) := by decide +kernel
theorem d_Pa_function_215 : decode c_Pa_function 215 = .ok (.putfield 37, 3) := by decide +kernel
theorem d_Pa_function_218 : decode c_Pa_function 218 = .ok (.aload_n 0, 1) := by decide +kernel
theorem d_Pa_function_219 : decode c_Pa_function 219 = .ok (.getfield 22, 3) := by decide +kernel
theorem d_Pa_function_222 : decode c_Pa_function 222 = .ok (.iload 5, 2) := by decide +kernel
theorem d_Pa_function_224 : decode c_Pa_function 224 = .ok (.invokevirtual 98, 3) := by decide +kernel
theorem d_Pa_function_227 : decode c_Pa_function 227 = .ok (.aload_n 0, 1) := by decide +kernel
theorem d_Pa_function_228 : decode c_Pa_function 228 = .ok (.getfield 22, 3) := by decide +kernel
theorem d_Pa_function_231 : decode c_Pa_function 231 = .ok (.iload_n 3, 1) := by decide +kernel
theorem d_Pa_function_232 : decode c_Pa_function 232 = .ok (.invokevirtual 98, 3) := by decide +kernel
theorem d_Pa_function_235 : decode c_Pa_function 235 = .ok (.return_, 1) := by decide +kernel
theorem d_Pa_functionName_0 : decode c_Pa_functionName 0 = .ok (.iload_n 1, 1) := by decide +kernel
theorem d_Pa_functionName_1 : decode c_Pa_functionName 1 = .ok (.bipush 24, 2) := by decide +kernel
theorem d_Pa_functionName_3 : decode c_Pa_functionName 3 = .ok (.if_icmp .ne 8, 3) := by decide +kernel
theorem d_Pa_functionName_6 : decode c_Pa_functionName 6 = .ok (.bipush 24, 2) := by decide +kernel
theorem d_Pa_functionName_8 : decode c_Pa_functionName 8 = .ok (.goto 5, 3) := by decide +kernel
theorem d_Pa_functionName_11 : decode c_Pa_functionName 11 = .ok (.bipush 50, 2) := by decide +kernel
theorem d_Pa_functionName_13 : decode c_Pa_functionName 13 = .ok (.istore_n 2, 1) := by decide +kernel
theorem d_Pa_functionName_14 : decode c_Pa_functionName 14 = .ok (.aload_n 0, 1) := by decide +kernel
theorem d_Pa_functionName_15 : decode c_Pa_functionName 15 = .ok (.getfield 22, 3) := by decide +kernel
theorem d_Pa_functionName_18 : decode c_Pa_functionName 18 = .ok (.iload_n 2, 1) := by decide +kernel
theorem d_Pa_functionName_19 : decode c_Pa_functionName 19 = .ok (.iconst 0, 1) := by decide +kernel
theorem d_Pa_functionName_20 : decode c_Pa_functionName 20 = .ok (.aload_n 0, 1) := by decide +kernel
theorem d_Pa_functionName_21 : decode c_Pa_functionName 21 = .ok (.getfield 26, 3) := by decide +kernel
theorem d_Pa_functionName_24 : decode c_Pa_functionName 24 = .ok (.invokevirtual 54, 3) := by decide +kernel
theorem d_Pa_functionName_27 : decode c_Pa_functionName 27 = .ok (.istore_n 3, 1) := by decide +kernel
theorem d_Pa_functionName_28 : decode c_Pa_functionName 28 = .ok (.iload_n 1, 1) := by decide +kernel
theorem d_Pa_functionName_29 : decode c_Pa_functionName 29 = .ok (.iload_n 2, 1) := by decide +kernel
theorem d_Pa_functionName_30 : decode c_Pa_functionName 30 = .ok (.if_icmp .ne 13, 3) := by decide +kernel
theorem d_Pa_functionName_33 : decode c_Pa_functionName 33 = .ok (.aload_n 0, 1) := by decide +kernel
theorem d_Pa_functionName_34 : decode c_Pa_functionName 34 = .ok (.dup, 1) := by decide +kernel
theorem d_Pa_functionName_35 : decode c_Pa_functionName 35 = .ok (.getfield 26, 3) := by decide +kernel
theorem d_Pa_functionName_38 : decode c_Pa_functionName 38 = .ok (.iconst 1, 1) := by decide +kernel
theorem d_Pa_functionName_39 : decode c_Pa_functionName 39 = .ok (.iadd, 1) := by decide +kernel
theorem d_Pa_functionName_40 : decode c_Pa_functionName 40 = .ok (.putfield 26, 3) := by decide +kernel
theorem d_Pa_functionName_43 : decode c_Pa_functionName 43 = .ok (.iload_n 1, 1) := by decide +kernel
theorem d_Pa_functionName_44 : decode c_Pa_functionName 44 = .ok (.bipush 24, 2) := by decide +kernel
theorem d_Pa_functionName_46 : decode c_Pa_functionName 46 = .ok (.if_icmp .ne 18, 3) := by decide +kernel
theorem d_Pa_functionName_49 : decode c_Pa_functionName 49 = .ok (.aload_n 0, 1) := by decide +kernel
theorem d_Pa_functionName_50 : decode c_Pa_functionName 50 = .ok (.getfield 22, 3) := by decide +kernel
theorem d_Pa_functionName_53 : decode c_Pa_functionName 53 = .ok (.iload_n 3, 1) := by decide +kernel
theorem d_Pa_functionName_54 : decode c_Pa_functionName 54 = .ok (.aload_n 0, 1) := by decide +kernel
theorem d_Pa_functionName_55 : decode c_Pa_functionName 55 = .ok (.invokevirtual 123, 3) := by decide +kernel
theorem d_Pa_functionName_58 : decode c_Pa_functionName 58 = .ok (.invokevirtual 95, 3) := by decide +kernel
theorem d_Pa_functionName_61 : decode c_Pa_functionName 61 = .ok (.goto 31, 3) := by decide +kernel
theorem d_Pa_functionName_64 : decode c_Pa_functionName 64 = .ok (.iload_n 1, 1) := by decide +kernel
theorem d_Pa_functionName_65 : decode c_Pa_functionName 65 = .ok (.iload_n 2, 1) := by decide +kernel
theorem d_Pa_functionName_66 : decode c_Pa_functionName 66 = .ok (.if_icmp .ne 26, 3) := by decide +kernel
theorem d_Pa_functionName_69 : decode c_Pa_functionName 69 = .ok (.aload_n 0, 1) := by decide +kernel
theorem d_Pa_functionName_70 : decode c_Pa_functionName 70 = .ok (.bipush 60, 2) := by decide +kernel
theorem d_Pa_functionName_72 : decode c_Pa_functionName 72 = .ok (.invokevirtual 126, 3) := by decide +kernel
theorem d_Pa_functionName_75 : decode c_Pa_functionName 75 = .ok (.ifCond .ne 17, 3) := by decide +kernel
theorem d_Pa_functionName_78 : decode c_Pa_functionName 78 = .ok (.aload_n 0, 1) := by decide +kernel
theorem d_Pa_functionName_79 : decode c_Pa_functionName 79 = .ok (.getfield 22, 3) := by decide +kernel
theorem d_Pa_functionName_82 : decode c_Pa_functionName 82 = .ok (.iload_n 3, 1) := by decide +kernel
theorem d_Pa_functionName_83 : decode c_Pa_functionName 83 = .ok (.aload_n 0, 1) := by decide +kernel
theorem d_Pa_functionName_84 : decode c_Pa_functionName 84 = .ok (.invokevirtual 123, 3) := by decide +kernel
theorem d_Pa_functionName_87 : decode c_Pa_functionName 87 = .ok (.iconst 1, 1) := by decide +kernel
theorem d_Pa_functionName_88 : decode c_Pa_functionName 88 = .ok (.iadd, 1) := by decide +kernel
theorem d_Pa_functionName_89 : decode c_Pa_functionName 89 = .ok (.invokevirtual 95, 3) := by decide +kernel
theorem d_Pa_functionName_92 : decode c_Pa_functionName 92 = .ok (.iload_n 3, 1) := by decide +kernel
theorem d_Pa_functionName_93 : decode c_Pa_functionName 93 = .ok (.ireturn, 1) := by decide +kernel
theorem d_Pa_parameters_0 : decode c_Pa_parameters 0 = .ok (.aload_n 0, 1) := by decide +kernel
theorem d_Pa_parameters_1 : decode c_Pa_parameters 1 = .ok (.bipush 60, 2) := by decide +kernel
theorem d_Pa_parameters_3 : decode c_Pa_parameters 3 = .ok (.invokevirtual 114, 3) := by decide +kernel
theorem d_Pa_parameters_6 : decode c_Pa_parameters 6 = .ok (.iload_n 2, 1) := by decide +kernel
theorem d_Pa_parameters_7 : decode c_Pa_parameters 7 = .ok (.bipush 48, 2) := by decide +kernel
theorem d_Pa_parameters_9 : decode c_Pa_parameters 9 = .ok (.if_icmp .ne 12, 3) := by decide +kernel
theorem d_Pa_parameters_12 : decode c_Pa_parameters 12 = .ok (.aload_n 0, 1) := by decide +kernel
theorem d_Pa_parameters_13 : decode c_Pa_parameters 13 = .ok (.bipush 61, 2) := by decide +kernel
theorem d_Pa_parameters_15 : decode c_Pa_parameters 15 = .ok (.invokevirtual 114, 3) := by decide +kernel
theorem d_Pa_parameters_18 : decode c_Pa_parameters 18 = .ok (.goto 51, 3) := by decide +kernel
theorem d_Pa_parameters_21 : decode c_Pa_parameters 21 = .ok (.iload_n 2, 1) := by decide +kernel
theorem d_Pa_parameters_22 : decode c_Pa_parameters 22 = .ok (.bipush 49, 2) := by decide +kernel
theorem d_Pa_parameters_24 : decode c_Pa_parameters 24 = .ok (.if_icmp .ne 17, 3) := by decide +kernel
theorem d_Pa_parameters_27 : decode c_Pa_parameters 27 = .ok (.aload_n 0, 1) := by decide +kernel
theorem d_Pa_parameters_28 : decode c_Pa_parameters 28 = .ok (.iload_n 1, 1) := by decide +kernel
theorem d_Pa_parameters_29 : decode c_Pa_parameters 29 = .ok (.invokevirtual 129, 3) := by decide +kernel
theorem d_Pa_parameters_32 : decode c_Pa_parameters 32 = .ok (.aload_n 0, 1) := by decide +kernel
theorem d_Pa_parameters_33 : decode c_Pa_parameters 33 = .ok (.bipush 61, 2) := by decide +kernel
theorem d_Pa_parameters_35 : decode c_Pa_parameters 35 = .ok (.invokevirtual 114, 3) := by decide +kernel
theorem d_Pa_parameters_38 : decode c_Pa_parameters 38 = .ok (.goto 31, 3) := by decide +kernel
theorem d_Pa_parameters_41 : decode c_Pa_parameters 41 = .ok (.iconst 0, 1) := by decide +kernel
theorem d_Pa_parameters_42 : decode c_Pa_parameters 42 = .ok (.istore_n 3, 1) := by decide +kernel
theorem d_Pa_parameters_43 : decode c_Pa_parameters 43 = .ok (.iload_n 3, 1) := by decide +kernel
theorem d_Pa_parameters_44 : decode c_Pa_parameters 44 = .ok (.sipush 1000, 3) := by decide +kernel
theorem d_Pa_parameters_47 : decode c_Pa_parameters 47 = .ok (.if_icmp .gt 22, 3) := by decide +kernel
theorem d_Pa_parameters_50 : decode c_Pa_parameters 50 = .ok (.aload_n 0, 1) := by decide +kernel
theorem d_Pa_parameters_51 : decode c_Pa_parameters 51 = .ok (.iload_n 3, 1) := by decide +kernel
theorem d_Pa_parameters_52 : decode c_Pa_parameters 52 = .ok (.invokevirtual 132, 3) := by decide +kernel
theorem d_Pa_parameters_55 : decode c_Pa_parameters 55 = .ok (.ifCond .eq 14, 3) := by decide +kernel
theorem d_Pa_parameters_58 : decode c_Pa_parameters 58 = .ok (.aload_n 0, 1) := by decide +kernel
theorem d_Pa_parameters_59 : decode c_Pa_parameters 59 = .ok (.iload_n 1, 1) := by decide +kernel
theorem d_Pa_parameters_60 : decode c_Pa_parameters 60 = .ok (.invokevirtual 129, 3) := by decide +kernel
theorem d_Pa_parameters_63 : decode c_Pa_parameters 63 = .ok (.iinc 3 1, 3) := by decide +kernel
theorem d_Pa_parameters_66 : decode c_Pa_parameters 66 = .ok (.goto (-23), 3) := by decide +kernel
theorem d_Pa_parameters_69 : decode c_Pa_parameters 69 = .ok (.return_, 1) := by decide +kernel
theorem d_Pa_parameter_0 : decode c_Pa_parameter 0 = .ok (.aload_n 0, 1) := by decide +kernel
theorem d_Pa_parameter_1 : decode c_Pa_parameter 1 = .ok (.getfield 26, 3) := by decide +kernel
theorem d_Pa_parameter_4 : decode c_Pa_parameter 4 = .ok (.istore_n 2, 1) := by decide +kernel
theorem d_Pa_parameter_5 : decode c_Pa_parameter 5 = .ok (.aload_n 0, 1) := by decide +kernel
theorem d_Pa_parameter_6 : decode c_Pa_parameter 6 = .ok (.invokevirtual 123, 3) := by decide +kernel
theorem d_Pa_parameter_9 : decode c_Pa_parameter 9 = .ok (.istore_n 3, 1) := by decide +kernel
theorem d_Pa_parameter_10 : decode c_Pa_parameter 10 = .ok (.aload_n 0, 1) := by decide +kernel
theorem d_Pa_parameter_11 : decode c_Pa_parameter 11 = .ok (.getfield 37, 3) := by decide +kernel
theorem d_Pa_parameter_14 : decode c_Pa_parameter 14 = .ok (.getfield 91, 3) := by decide +kernel
theorem d_Pa_parameter_17 : decode c_Pa_parameter 17 = .ok (.ifCond .eq 24, 3) := by decide +kernel
theorem d_Pa_parameter_20 : decode c_Pa_parameter 20 = .ok (.aload_n 0, 1) := by decide +kernel
theorem d_Pa_parameter_21 : decode c_Pa_parameter 21 = .ok (.iload_n 1, 1) := by decide +kernel
theorem d_Pa_parameter_22 : decode c_Pa_parameter 22 = .ok (.aload_n 0, 1) := by decide +kernel
theorem d_Pa_parameter_23 : decode c_Pa_parameter 23 = .ok (.getfield 22, 3) := by decide +kernel
theorem d_Pa_parameter_26 : decode c_Pa_parameter 26 = .ok (.invokevirtual 135, 3) := by decide +kernel
theorem d_Pa_parameter_29 : decode c_Pa_parameter 29 = .ok (.iload_n 3, 1) := by decide +kernel
theorem d_Pa_parameter_30 : decode c_Pa_parameter 30 = .ok (.invokevirtual 136, 3) := by decide +kernel
theorem d_Pa_parameter_33 : decode c_Pa_parameter 33 = .ok (.ifCond .eq 8, 3) := by decide +kernel
theorem d_Pa_parameter_36 : decode c_Pa_parameter 36 = .ok (.aload_n 0, 1) := by decide +kernel
theorem d_Pa_parameter_37 : decode c_Pa_parameter 37 = .ok (.iload_n 2, 1) := by decide +kernel
theorem d_Pa_parameter_38 : decode c_Pa_parameter 38 = .ok (.invokevirtual 140, 3) := by decide +kernel
theorem d_Pa_parameter_41 : decode c_Pa_parameter 41 = .ok (.aload_n 0, 1) := by decide +kernel
theorem d_Pa_parameter_42 : decode c_Pa_parameter 42 = .ok (.getfield 22, 3) := by decide +kernel
theorem d_Pa_parameter_45 : decode c_Pa_parameter 45 = .ok (.bipush 25, 2) := by decide +kernel
theorem d_Pa_parameter_47 : decode c_Pa_parameter 47 = .ok (.iload_n 3, 1) := by decide +kernel
theorem d_Pa_parameter_48 : decode c_Pa_parameter 48 = .ok (.iload_n 2, 1) := by decide +kernel
theorem d_Pa_parameter_49 : decode c_Pa_parameter 49 = .ok (.invokevirtual 54, 3) := by decide +kernel
theorem d_Pa_parameter_52 : decode c_Pa_parameter 52 = .ok (.pop, 1) := by decide +kernel
theorem d_Pa_parameter_53 : decode c_Pa_parameter 53 = .ok (.return_, 1) := by decide +kernel
theorem d_Pa_hasParameter_0 : decode c_Pa_hasParameter 0 = .ok (.iload_n 1, 1) := by decide +kernel
theorem d_Pa_hasParameter_1 : decode c_Pa_hasParameter 1 = .ok (.iconst 1, 1) := by decide +kernel
theorem d_Pa_hasParameter_2 : decode c_Pa_hasParameter 2 = .ok (.iadd, 1) := by decide +kernel
theorem d_Pa_hasParameter_3 : decode c_Pa_hasParameter 3 = .ok (.istore 4, 2) := by decide +kernel
theorem d_Pa_hasParameter_5 : decode c_Pa_hasParameter 5 = .ok (.iload 4, 2) := by decide +kernel
theorem d_Pa_hasParameter_7 : decode c_Pa_hasParameter 7 = .ok (.iload_n 2, 1) := by decide +kernel
theorem d_Pa_hasParameter_8 : decode c_Pa_hasParameter 8 = .ok (.if_icmp .ge 38, 3) := by decide +kernel
theorem d_Pa_hasParameter_11 : decode c_Pa_hasParameter 11 = .ok (.aload_n 0, 1) := by decide +kernel
theorem d_Pa_hasParameter_12 : decode c_Pa_hasParameter 12 = .ok (.getfield 22, 3) := by decide +kernel
theorem d_Pa_hasParameter_15 : decode c_Pa_hasParameter 15 = .ok (.iload 4, 2) := by decide +kernel
theorem d_Pa_hasParameter_17 : decode c_Pa_hasParameter 17 = .ok (.invokevirtual 143, 3) := by decide +kernel
theorem d_Pa_hasParameter_20 : decode c_Pa_hasParameter 20 = .ok (.bipush 25, 2) := by decide +kernel
theorem d_Pa_hasParameter_22 : decode c_Pa_hasParameter 22 = .ok (.if_icmp .ne 18, 3) := by decide +kernel
theorem d_Pa_hasParameter_25 : decode c_Pa_hasParameter 25 = .ok (.aload_n 0, 1) := by decide +kernel
theorem d_Pa_hasParameter_26 : decode c_Pa_hasParameter 26 = .ok (.getfield 22, 3) := by decide +kernel
theorem d_Pa_hasParameter_29 : decode c_Pa_hasParameter 29 = .ok (.iload 4, 2) := by decide +kernel
theorem d_Pa_hasParameter_31 : decode c_Pa_hasParameter 31 = .ok (.invokevirtual 146, 3) := by decide +kernel
theorem d_Pa_hasParameter_34 : decode c_Pa_hasParameter 34 = .ok (.iload_n 3, 1) := by decide +kernel
theorem d_Pa_hasParameter_35 : decode c_Pa_hasParameter 35 = .ok (.if_icmp .ne 5, 3) := by decide +kernel
theorem d_Pa_hasParameter_38 : decode c_Pa_hasParameter 38 = .ok (.iconst 1, 1) := by decide +kernel
theorem d_Pa_hasParameter_39 : decode c_Pa_hasParameter 39 = .ok (.ireturn, 1) := by decide +kernel
theorem d_Pa_hasParameter_40 : decode c_Pa_hasParameter 40 = .ok (.iinc 4 1, 3) := by decide +kernel
theorem d_Pa_hasParameter_43 : decode c_Pa_hasParameter 43 = .ok (.goto (-38), 3) := by decide +kernel
theorem d_Pa_hasParameter_46 : decode c_Pa_hasParameter 46 = .ok (.iconst 0, 1) := by decide +kernel
theorem d_Pa_hasParameter_47 : decode c_Pa_hasParameter 47 = .ok (.ireturn, 1) := by decide +kernel
theorem d_Pa_makeStrict_0 : decode c_Pa_makeStrict 0 = .ok (.aload_n 0, 1) := by decide +kernel
theorem d_Pa_makeStrict_1 : decode c_Pa_makeStrict 1 = .ok (.getfield 37, 3) := by decide +kernel
theorem d_Pa_makeStrict_4 : decode c_Pa_makeStrict 4 = .ok (.getfield 91, 3) := by decide +kernel
theorem d_Pa_makeStrict_7 : decode c_Pa_makeStrict 7 = .ok (.ifCond .eq 4, 3) := by decide +kernel
theorem d_Pa_makeStrict_10 : decode c_Pa_makeStrict 10 = .ok (.return_, 1) := by decide +kernel
theorem d_Pa_makeStrict_11 : decode c_Pa_makeStrict 11 = .ok (.aload_n 0, 1) := by decide +kernel
theorem d_Pa_makeStrict_12 : decode c_Pa_makeStrict 12 = .ok (.getfield 37, 3) := by decide +kernel
theorem d_Pa_makeStrict_15 : decode c_Pa_makeStrict 15 = .ok (.iconst 1, 1) := by decide +kernel
theorem d_Pa_makeStrict_16 : decode c_Pa_makeStrict 16 = .ok (.putfield 91, 3) := by decide +kernel
theorem d_Pa_makeStrict_19 : decode c_Pa_makeStrict 19 = .ok (.aload_n 0, 1) := by decide +kernel
theorem d_Pa_makeStrict_20 : decode c_Pa_makeStrict 20 = .ok (.getfield 22, 3) := by decide +kernel
theorem d_Pa_makeStrict_23 : decode c_Pa_makeStrict 23 = .ok (.iload_n 1, 1) := by decide +kernel
theorem d_Pa_makeStrict_24 : decode c_Pa_makeStrict 24 = .ok (.invokevirtual 143, 3) := by decide +kernel
theorem d_Pa_makeStrict_27 : decode c_Pa_makeStrict 27 = .ok (.bipush 24, 2) := by decide +kernel
theorem d_Pa_makeStrict_29 : decode c_Pa_makeStrict 29 = .ok (.if_icmp .eq 14, 3) := by decide +kernel
theorem d_Pa_makeStrict_32 : decode c_Pa_makeStrict 32 = .ok (.aload_n 0, 1) := by decide +kernel
theorem d_Pa_makeStrict_33 : decode c_Pa_makeStrict 33 = .ok (.getfield 22, 3) := by decide +kernel
theorem d_Pa_makeStrict_36 : decode c_Pa_makeStrict 36 = .ok (.iload_n 1, 1) := by decide +kernel
theorem d_Pa_makeStrict_37 : decode c_Pa_makeStrict 37 = .ok (.invokevirtual 146, 3) := by decide +kernel
theorem d_Pa_makeStrict_40 : decode c_Pa_makeStrict 40 = .ok (.ifCond .eq 7, 3) := by decide +kernel
theorem d_Pa_makeStrict_43 : decode c_Pa_makeStrict 43 = .ok (.iconst 1, 1) := by decide +kernel
theorem d_Pa_makeStrict_44 : decode c_Pa_makeStrict 44 = .ok (.goto 4, 3) := by decide +kernel
theorem d_Pa_makeStrict_47 : decode c_Pa_makeStrict 47 = .ok (.iconst 0, 1) := by decide +kernel
theorem d_Pa_makeStrict_48 : decode c_Pa_makeStrict 48 = .ok (.istore_n 3, 1) := by decide +kernel
theorem d_Pa_makeStrict_49 : decode c_Pa_makeStrict 49 = .ok (.iload_n 3, 1) := by decide +kernel
theorem d_Pa_makeStrict_50 : decode c_Pa_makeStrict 50 = .ok (.ifCond .eq 20, 3) := by decide +kernel
theorem d_Pa_makeStrict_53 : decode c_Pa_makeStrict 53 = .ok (.aload_n 0, 1) := by decide +kernel
theorem d_Pa_makeStrict_54 : decode c_Pa_makeStrict 54 = .ok (.aload_n 0, 1) := by decide +kernel
theorem d_Pa_makeStrict_55 : decode c_Pa_makeStrict 55 = .ok (.getfield 22, 3) := by decide +kernel
theorem d_Pa_makeStrict_58 : decode c_Pa_makeStrict 58 = .ok (.iload_n 1, 1) := by decide +kernel
theorem d_Pa_makeStrict_59 : decode c_Pa_makeStrict 59 = .ok (.invokevirtual 149, 3) := by decide +kernel
theorem d_Pa_makeStrict_62 : decode c_Pa_makeStrict 62 = .ok (.iconst 1, 1) := by decide +kernel
theorem d_Pa_makeStrict_63 : decode c_Pa_makeStrict 63 = .ok (.iadd, 1) := by decide +kernel
theorem d_Pa_makeStrict_64 : decode c_Pa_makeStrict 64 = .ok (.invokevirtual 152, 3) := by decide +kernel
theorem d_Pa_makeStrict_67 : decode c_Pa_makeStrict 67 = .ok (.ifCond .eq 7, 3) := by decide +kernel
theorem d_Pa_makeStrict_70 : decode c_Pa_makeStrict 70 = .ok (.iconst 1, 1) := by decide +kernel
theorem d_Pa_makeStrict_71 : decode c_Pa_makeStrict 71 = .ok (.goto 4, 3) := by decide +kernel
theorem d_Pa_makeStrict_74 : decode c_Pa_makeStrict 74 = .ok (.iconst 0, 1) := by decide +kernel
theorem d_Pa_makeStrict_75 : decode c_Pa_makeStrict 75 = .ok (.istore 4, 2) := by decide +kernel
theorem d_Pa_makeStrict_77 : decode c_Pa_makeStrict 77 = .ok (.iload_n 1, 1) := by decide +kernel
theorem d_Pa_makeStrict_78 : decode c_Pa_makeStrict 78 = .ok (.iconst 1, 1) := by decide +kernel
theorem d_Pa_makeStrict_79 : decode c_Pa_makeStrict 79 = .ok (.iadd, 1) := by decide +kernel
theorem d_Pa_makeStrict_80 : decode c_Pa_makeStrict 80 = .ok (.istore 5, 2) := by decide +kernel
theorem d_Pa_makeStrict_82 : decode c_Pa_makeStrict 82 = .ok (.iload 4, 2) := by decide +kernel
theorem d_Pa_makeStrict_84 : decode c_Pa_makeStrict 84 = .ok (.ifCond .eq 57, 3) := by decide +kernel
theorem d_Pa_makeStrict_87 : decode c_Pa_makeStrict 87 = .ok (.iload 5, 2) := by decide +kernel
theorem d_Pa_makeStrict_89 : decode c_Pa_makeStrict 89 = .ok (.iload_n 2, 1) := by decide +kernel
theorem d_Pa_makeStrict_90 : decode c_Pa_makeStrict 90 = .ok (.if_icmp .ge 51, 3) := by decide +kernel
theorem d_Pa_makeStrict_93 : decode c_Pa_makeStrict 93 = .ok (.aload_n 0, 1) := by decide +kernel
theorem d_Pa_makeStrict_94 : decode c_Pa_makeStrict 94 = .ok (.aload_n 0, 1) := by decide +kernel
theorem d_Pa_makeStrict_95 : decode c_Pa_makeStrict 95 = .ok (.getfield 22, 3) := by decide +kernel
theorem d_Pa_makeStrict_98 : decode c_Pa_makeStrict 98 = .ok (.iload 5, 2) := by decide +kernel
theorem d_Pa_makeStrict_100 : decode c_Pa_makeStrict 100 = .ok (.invokevirtual 149, 3) := by decide +kernel
theorem d_Pa_makeStrict_103 : decode c_Pa_makeStrict 103 = .ok (.invokevirtual 152, 3) := by decide +kernel
theorem d_Pa_makeStrict_106 : decode c_Pa_makeStrict 106 = .ok (.ifCond .eq 26, 3) := by decide +kernel
theorem d_Pa_makeStrict_109 : decode c_Pa_makeStrict 109 = .ok (.aload_n 0, 1) := by decide +kernel
theorem d_Pa_makeStrict_110 : decode c_Pa_makeStrict 110 = .ok (.iload_n 1, 1) := by decide +kernel
theorem d_Pa_makeStrict_111 : decode c_Pa_makeStrict 111 = .ok (.iload 5, 2) := by decide +kernel
theorem d_Pa_makeStrict_113 : decode c_Pa_makeStrict 113 = .ok (.aload_n 0, 1) := by decide +kernel
theorem d_Pa_makeStrict_114 : decode c_Pa_makeStrict 114 = .ok (.getfield 22, 3) := by decide +kernel
theorem d_Pa_makeStrict_117 : decode c_Pa_makeStrict 117 = .ok (.iload 5, 2) := by decide +kernel
theorem d_Pa_makeStrict_119 : decode c_Pa_makeStrict 119 = .ok (.invokevirtual 146, 3) := by decide +kernel
theorem d_Pa_makeStrict_122 : decode c_Pa_makeStrict 122 = .ok (.invokevirtual 136, 3) := by decide +kernel
theorem d_Pa_makeStrict_125 : decode c_Pa_makeStrict 125 = .ok (.ifCond .ne 7, 3) := by decide +kernel
theorem d_Pa_makeStrict_128 : decode c_Pa_makeStrict 128 = .ok (.iconst 1, 1) := by decide +kernel
theorem d_Pa_makeStrict_129 : decode c_Pa_makeStrict 129 = .ok (.goto 4, 3) := by decide +kernel
theorem d_Pa_makeStrict_132 : decode c_Pa_makeStrict 132 = .ok (.iconst 0, 1) := by decide +kernel
theorem d_Pa_makeStrict_133 : decode c_Pa_makeStrict 133 = .ok (.istore 4, 2) := by decide +kernel
theorem d_Pa_makeStrict_135 : decode c_Pa_makeStrict 135 = .ok (.iinc 5 1, 3) := by decide +kernel
theorem d_Pa_makeStrict_138 : decode c_Pa_makeStrict 138 = .ok (.goto (-56), 3) := by decide +kernel
theorem d_Pa_makeStrict_141 : decode c_Pa_makeStrict 141 = .ok (.iload 4, 2) := by decide +kernel
theorem d_Pa_makeStrict_143 : decode c_Pa_makeStrict 143 = .ok (.ifCond .ne 15, 3) := by decide +kernel
theorem d_Pa_makeStrict_146 : decode c_Pa_makeStrict 146 = .ok (.aload_n 0, 1) := by decide +kernel
theorem d_Pa_makeStrict_147 : decode c_Pa_makeStrict 147 = .ok (.aload_n 0, 1) := by decide +kernel
theorem d_Pa_makeStrict_148 : decode c_Pa_makeStrict 148 = .ok (.getfield 22, 3) := by decide +kernel
theorem d_Pa_makeStrict_151 : decode c_Pa_makeStrict 151 = .ok (.iload_n 2, 1) := by decide +kernel
theorem d_Pa_makeStrict_152 : decode c_Pa_makeStrict 152 = .ok (.invokevirtual 149, 3) := by decide +kernel
theorem d_Pa_makeStrict_155 : decode c_Pa_makeStrict 155 = .ok (.invokevirtual 140, 3) := by decide +kernel
theorem d_Pa_makeStrict_158 : decode c_Pa_makeStrict 158 = .ok (.return_, 1) := by decide +kernel
theorem d_Pa_mayBeBound_0 : decode c_Pa_mayBeBound 0 = .ok (.aload_n 0, 1) := by decide +kernel
theorem d_Pa_mayBeBound_1 : decode c_Pa_mayBeBound 1 = .ok (.getfield 84, 3) := by decide +kernel
theorem d_Pa_mayBeBound_4 : decode c_Pa_mayBeBound 4 = .ok (.iload_n 1, 1) := by decide +kernel
theorem d_Pa_mayBeBound_5 : decode c_Pa_mayBeBound 5 = .ok (.iconst 1, 1) := by decide +kernel
theorem d_Pa_mayBeBound_6 : decode c_Pa_mayBeBound 6 = .ok (.invokevirtual 155, 3) := by decide +kernel
theorem d_Pa_mayBeBound_9 : decode c_Pa_mayBeBound 9 = .ok (.ifCond .eq 21, 3) := by decide +kernel
theorem d_Pa_mayBeBound_12 : decode c_Pa_mayBeBound 12 = .ok (.aload_n 0, 1) := by decide +kernel
theorem d_Pa_mayBeBound_13 : decode c_Pa_mayBeBound 13 = .ok (.getfield 84, 3) := by decide +kernel
theorem d_Pa_mayBeBound_16 : decode c_Pa_mayBeBound 16 = .ok (.iload_n 1, 1) := by decide +kernel
theorem d_Pa_mayBeBound_17 : decode c_Pa_mayBeBound 17 = .ok (.invokevirtual 159, 3) := by decide +kernel
theorem d_Pa_mayBeBound_20 : decode c_Pa_mayBeBound 20 = .ok (.invokestatic 162, 3) := by decide +kernel
theorem d_Pa_mayBeBound_23 : decode c_Pa_mayBeBound 23 = .ok (.ifCond .ne 7, 3) := by decide +kernel
theorem d_Pa_mayBeBound_26 : decode c_Pa_mayBeBound 26 = .ok (.iconst 1, 1) := by decide +kernel
theorem d_Pa_mayBeBound_27 : decode c_Pa_mayBeBound 27 = .ok (.goto 4, 3) := by decide +kernel
theorem d_Pa_mayBeBound_30 : decode c_Pa_mayBeBound 30 = .ok (.iconst 0, 1) := by decide +kernel
theorem d_Pa_mayBeBound_31 : decode c_Pa_mayBeBound 31 = .ok (.ireturn, 1) := by decide +kernel
theorem d_Pa_statement_0 : decode c_Pa_statement 0 = .ok (.aload_n 0, 1) := by decide +kernel
theorem d_Pa_statement_1 : decode c_Pa_statement 1 = .ok (.iload_n 1, 1) := by decide +kernel
theorem d_Pa_statement_2 : decode c_Pa_statement 2 = .ok (.invokevirtual 102, 3) := by decide +kernel
theorem d_Pa_statement_5 : decode c_Pa_statement 5 = .ok (.aload_n 0, 1) := by decide +kernel
theorem d_Pa_statement_6 : decode c_Pa_statement 6 = .ok (.getfield 84, 3) := by decide +kernel
theorem d_Pa_statement_9 : decode c_Pa_statement 9 = .ok (.aload_n 0, 1) := by decide +kernel
theorem d_Pa_statement_10 : decode c_Pa_statement 10 = .ok (.getfield 26, 3) := by decide +kernel
theorem d_Pa_statement_13 : decode c_Pa_statement 13 = .ok (.invokevirtual 165, 3) := by decide +kernel
theorem d_Pa_statement_16 : decode c_Pa_statement 16 = .ok (.tableswitch 242 0 25 #[187, 242, 242, 187, 237, 242, 242, 137, 242, 242, 151, 242, 131, 242, 242, 242, 207, 219, 242, 225, 231, 242, 120, 242, 144, 213], 120) := by decide +kernel
theorem d_Pa_statement_136 : decode c_Pa_statement 136 = .ok (.aload_n 0, 1) := by decide +kernel
theorem d_Pa_statement_137 : decode c_Pa_statement 137 = .ok (.iload_n 1, 1) := by decide +kernel
theorem d_Pa_statement_138 : decode c_Pa_statement 138 = .ok (.iconst 1, 1) := by decide +kernel
theorem d_Pa_statement_139 : decode c_Pa_statement 139 = .ok (.invokevirtual 168, 3) := by decide +kernel
theorem d_Pa_statement_142 : decode c_Pa_statement 142 = .ok (.aload_n 0, 1) := by decide +kernel
theorem d_Pa_statement_143 : decode c_Pa_statement 143 = .ok (.invokevirtual 172, 3) := by decide +kernel
theorem d_Pa_statement_146 : decode c_Pa_statement 146 = .ok (.return_, 1) := by decide +kernel
theorem d_Pa_statement_147 : decode c_Pa_statement 147 = .ok (.aload_n 0, 1) := by decide +kernel
theorem d_Pa_statement_148 : decode c_Pa_statement 148 = .ok (.iload_n 1, 1) := by decide +kernel
theorem d_Pa_statement_149 : decode c_Pa_statement 149 = .ok (.invokevirtual 175, 3) := by decide +kernel
theorem d_Pa_statement_152 : decode c_Pa_statement 152 = .ok (.return_, 1) := by decide +kernel
theorem d_Pa_statement_153 : decode c_Pa_statement 153 = .ok (.aload_n 0, 1) := by decide +kernel
theorem d_Pa_statement_154 : decode c_Pa_statement 154 = .ok (.iload_n 1, 1) := by decide +kernel
theorem d_Pa_statement_155 : decode c_Pa_statement 155 = .ok (.iload_n 2, 1) := by decide +kernel
theorem d_Pa_statement_156 : decode c_Pa_statement 156 = .ok (.invokevirtual 178, 3) := by decide +kernel
theorem d_Pa_statement_159 : decode c_Pa_statement 159 = .ok (.return_, 1) := by decide +kernel
theorem d_Pa_statement_160 : decode c_Pa_statement 160 = .ok (.aload_n 0, 1) := by decide +kernel
theorem d_Pa_statement_161 : decode c_Pa_statement 161 = .ok (.iload_n 1, 1) := by decide +kernel
theorem d_Pa_statement_162 : decode c_Pa_statement 162 = .ok (.iload_n 2, 1) := by decide +kernel
theorem d_Pa_statement_163 : decode c_Pa_statement 163 = .ok (.invokevirtual 181, 3) := by decide +kernel
theorem d_Pa_statement_166 : decode c_Pa_statement 166 = .ok (.return_, 1) := by decide +kernel
theorem d_Pa_statement_167 : decode c_Pa_statement 167 = .ok (.aload_n 0, 1) := by decide +kernel
theorem d_Pa_statement_168 : decode c_Pa_statement 168 = .ok (.iload_n 2, 1) := by decide +kernel
theorem d_Pa_statement_169 : decode c_Pa_statement 169 = .ok (.invokevirtual 184, 3) := by decide +kernel
theorem d_Pa_statement_172 : decode c_Pa_statement 172 = .ok (.istore_n 3, 1) := by decide +kernel
theorem d_Pa_statement_173 : decode c_Pa_statement 173 = .ok (.aload_n 0, 1) := by decide +kernel
theorem d_Pa_statement_174 : decode c_Pa_statement 174 = .ok (.bipush 22, 2) := by decide +kernel
theorem d_Pa_statement_176 : decode c_Pa_statement 176 = .ok (.invokevirtual 66, 3) := by decide +kernel
theorem d_Pa_statement_179 : decode c_Pa_statement 179 = .ok (.ifCond .eq 12, 3) := by decide +kernel
theorem d_Pa_statement_182 : decode c_Pa_statement 182 = .ok (.aload_n 0, 1) := by decide +kernel
theorem d_Pa_statement_183 : decode c_Pa_statement 183 = .ok (.iload_n 1, 1) := by decide +kernel
theorem d_Pa_statement_184 : decode c_Pa_statement 184 = .ok (.iconst 0, 1) := by decide +kernel
theorem d_Pa_statement_185 : decode c_Pa_statement 185 = .ok (.invokevirtual 168, 3) := by decide +kernel
theorem d_Pa_statement_188 : decode c_Pa_statement 188 = .ok (.goto 8, 3) := by decide +kernel
theorem d_Pa_statement_191 : decode c_Pa_statement 191 = .ok (.aload_n 0, 1) := by decide +kernel
theorem d_Pa_statement_192 : decode c_Pa_statement 192 = .ok (.iload_n 1, 1) := by decide +kernel
theorem d_Pa_statement_193 : decode c_Pa_statement 193 = .ok (.invokevirtual 187, 3) := by decide +kernel
theorem d_Pa_statement_196 : decode c_Pa_statement 196 = .ok (.aload_n 0, 1) := by decide +kernel
theorem d_Pa_statement_197 : decode c_Pa_statement 197 = .ok (.iload_n 3, 1) := by decide +kernel
theorem d_Pa_statement_198 : decode c_Pa_statement 198 = .ok (.iload_n 1, 1) := by decide +kernel
theorem d_Pa_statement_199 : decode c_Pa_statement 199 = .ok (.invokevirtual 190, 3) := by decide +kernel
theorem d_Pa_statement_202 : decode c_Pa_statement 202 = .ok (.return_, 1) := by decide +kernel
theorem d_Pa_statement_203 : decode c_Pa_statement 203 = .ok (.aload_n 0, 1) := by decide +kernel
theorem d_Pa_statement_204 : decode c_Pa_statement 204 = .ok (.aload_n 0, 1) := by decide +kernel
theorem d_Pa_statement_205 : decode c_Pa_statement 205 = .ok (.iconst 0, 1) := by decide +kernel
theorem d_Pa_statement_206 : decode c_Pa_statement 206 = .ok (.invokevirtual 66, 3) := by decide +kernel
theorem d_Pa_statement_209 : decode c_Pa_statement 209 = .ok (.ifCond .eq 8, 3) := by decide +kernel
theorem d_Pa_statement_212 : decode c_Pa_statement 212 = .ok (.bipush 12, 2) := by decide +kernel
theorem d_Pa_statement_214 : decode c_Pa_statement 214 = .ok (.goto 5, 3) := by decide +kernel
theorem d_Pa_statement_217 : decode c_Pa_statement 217 = .ok (.bipush 11, 2) := by decide +kernel
theorem d_Pa_statement_219 : decode c_Pa_statement 219 = .ok (.invokevirtual 193, 3) := by decide +kernel
theorem d_Pa_statement_222 : decode c_Pa_statement 222 = .ok (.return_, 1) := by decide +kernel
theorem d_Pa_statement_223 : decode c_Pa_statement 223 = .ok (.aload_n 0, 1) := by decide +kernel
theorem d_Pa_statement_224 : decode c_Pa_statement 224 = .ok (.iload_n 1, 1) := by decide +kernel
theorem d_Pa_statement_225 : decode c_Pa_statement 225 = .ok (.invokevirtual 196, 3) := by decide +kernel
theorem d_Pa_statement_228 : decode c_Pa_statement 228 = .ok (.return_, 1) := by decide +kernel
theorem d_Pa_statement_229 : decode c_Pa_statement 229 = .ok (.aload_n 0, 1) := by decide +kernel
theorem d_Pa_statement_230 : decode c_Pa_statement 230 = .ok (.iload_n 1, 1) := by decide +kernel
theorem d_Pa_statement_231 : decode c_Pa_statement 231 = .ok (.invokevirtual 199, 3) := by decide +kernel
theorem d_Pa_statement_234 : decode c_Pa_statement 234 = .ok (.return_, 1) := by decide +kernel
theorem d_Pa_statement_235 : decode c_Pa_statement 235 = .ok (.aload_n 0, 1) := by decide +kernel
theorem d_Pa_statement_236 : decode c_Pa_statement 236 = .ok (.iload_n 1, 1) := by decide +kernel
theorem d_Pa_statement_237 : decode c_Pa_statement 237 = .ok (.invokevirtual 202, 3) := by decide +kernel
theorem d_Pa_statement_240 : decode c_Pa_statement 240 = .ok (.return_, 1) := by decide +kernel
theorem d_Pa_statement_241 : decode c_Pa_statement 241 = .ok (.aload_n 0, 1) := by decide +kernel
theorem d_Pa_statement_242 : decode c_Pa_statement 242 = .ok (.iload_n 1, 1) := by decide +kernel
theorem d_Pa_statement_243 : decode c_Pa_statement 243 = .ok (.invokevirtual 205, 3) := by decide +kernel
theorem d_Pa_statement_246 : decode c_Pa_statement 246 = .ok (.return_, 1) := by decide +kernel
theorem d_Pa_statement_247 : decode c_Pa_statement 247 = .ok (.aload_n 0, 1) := by decide +kernel
theorem d_Pa_statement_248 : decode c_Pa_statement 248 = .ok (.iload_n 1, 1) := by decide +kernel
theorem d_Pa_statement_249 : decode c_Pa_statement 249 = .ok (.invokevirtual 208, 3) := by decide +kernel
theorem d_Pa_statement_252 : decode c_Pa_statement 252 = .ok (.return_, 1) := by decide +kernel
theorem d_Pa_statement_253 : decode c_Pa_statement 253 = .ok (.aload_n 0, 1) := by decide +kernel
theorem d_Pa_statement_254 : decode c_Pa_statement 254 = .ok (.invokevirtual 211, 3) := by decide +kernel
theorem d_Pa_statement_257 : decode c_Pa_statement 257 = .ok (.return_, 1) := by decide +kernel
theorem d_Pa_statement_258 : decode c_Pa_statement 258 = .ok (.aload_n 0, 1) := by decide +kernel
theorem d_Pa_statement_259 : decode c_Pa_statement 259 = .ok (.bipush 64, 2) := by decide +kernel
theorem d_Pa_statement_261 : decode c_Pa_statement 261 = .ok (.invokevirtual 126, 3) := by decide +kernel
theorem d_Pa_statement_264 : decode c_Pa_statement 264 = .ok (.ifCond .eq 11, 3) := by decide +kernel
theorem d_Pa_statement_267 : decode c_Pa_statement 267 = .ok (.aload_n 0, 1) := by decide +kernel
theorem d_Pa_statement_268 : decode c_Pa_statement 268 = .ok (.iload_n 1, 1) := by decide +kernel
theorem d_Pa_statement_269 : decode c_Pa_statement 269 = .ok (.invokevirtual 214, 3) := by decide +kernel
theorem d_Pa_statement_272 : decode c_Pa_statement 272 = .ok (.goto 58, 3) := by decide +kernel
theorem d_Pa_statement_275 : decode c_Pa_statement 275 = .ok (.aload_n 0, 1) := by decide +kernel
theorem d_Pa_statement_276 : decode c_Pa_statement 276 = .ok (.bipush 67, 2) := by decide +kernel
theorem d_Pa_statement_278 : decode c_Pa_statement 278 = .ok (.invokevirtual 126, 3) := by decide +kernel
theorem d_Pa_statement_281 : decode c_Pa_statement 281 = .ok (.ifCond .eq 10, 3) := by decide +kernel
theorem d_Pa_statement_284 : decode c_Pa_statement 284 = .ok (.aload_n 0, 1) := by decide +kernel
theorem d_Pa_statement_285 : decode c_Pa_statement 285 = .ok (.invokevirtual 217, 3) := by decide +kernel
theorem d_Pa_statement_288 : decode c_Pa_statement 288 = .ok (.goto 42, 3) := by decide +kernel
theorem d_Pa_statement_291 : decode c_Pa_statement 291 = .ok (.aload_n 0, 1) := by decide +kernel
theorem d_Pa_statement_292 : decode c_Pa_statement 292 = .ok (.invokevirtual 220, 3) := by decide +kernel
theorem d_Pa_statement_295 : decode c_Pa_statement 295 = .ok (.ifCond .eq 30, 3) := by decide +kernel
theorem d_Pa_statement_298 : decode c_Pa_statement 298 = .ok (.aload_n 0, 1) := by decide +kernel
theorem d_Pa_statement_299 : decode c_Pa_statement 299 = .ok (.getfield 84, 3) := by decide +kernel
theorem d_Pa_statement_302 : decode c_Pa_statement 302 = .ok (.aload_n 0, 1) := by decide +kernel
theorem d_Pa_statement_303 : decode c_Pa_statement 303 = .ok (.getfield 26, 3) := by decide +kernel
theorem d_Pa_statement_306 : decode c_Pa_statement 306 = .ok (.iconst 1, 1) := by decide +kernel
theorem d_Pa_statement_307 : decode c_Pa_statement 307 = .ok (.iadd, 1) := by decide +kernel
theorem d_Pa_statement_308 : decode c_Pa_statement 308 = .ok (.invokevirtual 223, 3) := by decide +kernel
theorem d_Pa_statement_311 : decode c_Pa_statement 311 = .ok (.bipush 70, 2) := by decide +kernel
theorem d_Pa_statement_313 : decode c_Pa_statement 313 = .ok (.if_icmp .ne 12, 3) := by decide +kernel
theorem d_Pa_statement_316 : decode c_Pa_statement 316 = .ok (.aload_n 0, 1) := by decide +kernel
theorem d_Pa_statement_317 : decode c_Pa_statement 317 = .ok (.iload_n 1, 1) := by decide +kernel
theorem d_Pa_statement_318 : decode c_Pa_statement 318 = .ok (.iload_n 2, 1) := by decide +kernel
theorem d_Pa_statement_319 : decode c_Pa_statement 319 = .ok (.invokevirtual 226, 3) := by decide +kernel
theorem d_Pa_statement_322 : decode c_Pa_statement 322 = .ok (.goto 8, 3) := by decide +kernel
theorem d_Pa_statement_325 : decode c_Pa_statement 325 = .ok (.aload_n 0, 1) := by decide +kernel
theorem d_Pa_statement_326 : decode c_Pa_statement 326 = .ok (.iload_n 1, 1) := by decide +kernel
theorem d_Pa_statement_327 : decode c_Pa_statement 327 = .ok (.invokevirtual 229, 3) := by decide +kernel
theorem d_Pa_statement_330 : decode c_Pa_statement 330 = .ok (.return_, 1) := by decide +kernel
theorem d_Pa_block_0 : decode c_Pa_block 0 = .ok (.aload_n 0, 1) := by decide +kernel
theorem d_Pa_block_1 : decode c_Pa_block 1 = .ok (.iload_n 1, 1) := by decide +kernel
theorem d_Pa_block_2 : decode c_Pa_block 2 = .ok (.invokevirtual 102, 3) := by decide +kernel
theorem d_Pa_block_5 : decode c_Pa_block 5 = .ok (.aload_n 0, 1) := by decide +kernel
theorem d_Pa_block_6 : decode c_Pa_block 6 = .ok (.getfield 22, 3) := by decide +kernel
theorem d_Pa_block_9 : decode c_Pa_block 9 = .ok (.iconst 1, 1) := by decide +kernel
theorem d_Pa_block_10 : decode c_Pa_block 10 = .ok (.iconst 0, 1) := by decide +kernel
theorem d_Pa_block_11 : decode c_Pa_block 11 = .ok (.aload_n 0, 1) := by decide +kernel
theorem d_Pa_block_12 : decode c_Pa_block 12 = .ok (.getfield 26, 3) := by decide +kernel
theorem d_Pa_block_15 : decode c_Pa_block 15 = .ok (.invokevirtual 54, 3) := by decide +kernel
theorem d_Pa_block_18 : decode c_Pa_block 18 = .ok (.istore_n 2, 1) := by decide +kernel
theorem d_Pa_block_19 : decode c_Pa_block 19 = .ok (.aload_n 0, 1) := by decide +kernel
theorem d_Pa_block_20 : decode c_Pa_block 20 = .ok (.bipush 64, 2) := by decide +kernel
theorem d_Pa_block_22 : decode c_Pa_block 22 = .ok (.invokevirtual 114, 3) := by decide +kernel
theorem d_Pa_block_25 : decode c_Pa_block 25 = .ok (.iconst 0, 1) := by decide +kernel
theorem d_Pa_block_26 : decode c_Pa_block 26 = .ok (.istore_n 3, 1) := by decide +kernel
theorem d_Pa_block_27 : decode c_Pa_block 27 = .ok (.iload_n 3, 1) := by decide +kernel
theorem d_Pa_block_28 : decode c_Pa_block 28 = .ok (.sipush 1000, 3) := by decide +kernel
theorem d_Pa_block_31 : decode c_Pa_block 31 = .ok (.if_icmp .gt 32, 3) := by decide +kernel
theorem d_Pa_block_34 : decode c_Pa_block 34 = .ok (.aload_n 0, 1) := by decide +kernel
theorem d_Pa_block_35 : decode c_Pa_block 35 = .ok (.bipush 65, 2) := by decide +kernel
theorem d_Pa_block_37 : decode c_Pa_block 37 = .ok (.invokevirtual 117, 3) := by decide +kernel
theorem d_Pa_block_40 : decode c_Pa_block 40 = .ok (.ifCond .ne 23, 3) := by decide +kernel
theorem d_Pa_block_43 : decode c_Pa_block 43 = .ok (.aload_n 0, 1) := by decide +kernel
theorem d_Pa_block_44 : decode c_Pa_block 44 = .ok (.iload_n 1, 1) := by decide +kernel
theorem d_Pa_block_45 : decode c_Pa_block 45 = .ok (.iconst 1, 1) := by decide +kernel
theorem d_Pa_block_46 : decode c_Pa_block 46 = .ok (.iadd, 1) := by decide +kernel
theorem d_Pa_block_47 : decode c_Pa_block 47 = .ok (.aload_n 0, 1) := by decide +kernel
theorem d_Pa_block_48 : decode c_Pa_block 48 = .ok (.getfield 12, 3) := by decide +kernel
theorem d_Pa_block_51 : decode c_Pa_block 51 = .ok (.invokevirtual 74, 3) := by decide +kernel
theorem d_Pa_block_54 : decode c_Pa_block 54 = .ok (.invokevirtual 78, 3) := by decide +kernel
theorem d_Pa_block_57 : decode c_Pa_block 57 = .ok (.iinc 3 1, 3) := by decide +kernel
theorem d_Pa_block_60 : decode c_Pa_block 60 = .ok (.goto (-33), 3) := by decide +kernel
theorem d_Pa_block_63 : decode c_Pa_block 63 = .ok (.aload_n 0, 1) := by decide +kernel
theorem d_Pa_block_64 : decode c_Pa_block 64 = .ok (.getfield 22, 3) := by decide +kernel
theorem d_Pa_block_67 : decode c_Pa_block 67 = .ok (.iload_n 2, 1) := by decide +kernel
theorem d_Pa_block_68 : decode c_Pa_block 68 = .ok (.invokevirtual 98, 3) := by decide +kernel
theorem d_Pa_block_71 : decode c_Pa_block 71 = .ok (.return_, 1) := by decide +kernel
theorem d_Pa_emptyStatement_0 : decode c_Pa_emptyStatement 0 = .ok (.aload_n 0, 1) := by decide +kernel
theorem d_Pa_emptyStatement_1 : decode c_Pa_emptyStatement 1 = .ok (.getfield 22, 3) := by decide +kernel
theorem d_Pa_emptyStatement_4 : decode c_Pa_emptyStatement 4 = .ok (.iconst 4, 1) := by decide +kernel
theorem d_Pa_emptyStatement_5 : decode c_Pa_emptyStatement 5 = .ok (.iconst 0, 1) := by decide +kernel
theorem d_Pa_emptyStatement_6 : decode c_Pa_emptyStatement 6 = .ok (.aload_n 0, 1) := by decide +kernel
theorem d_Pa_emptyStatement_7 : decode c_Pa_emptyStatement 7 = .ok (.getfield 26, 3) := by decide +kernel
theorem d_Pa_emptyStatement_10 : decode c_Pa_emptyStatement 10 = .ok (.invokevirtual 54, 3) := by decide +kernel
theorem d_Pa_emptyStatement_13 : decode c_Pa_emptyStatement 13 = .ok (.pop, 1) := by decide +kernel
theorem d_Pa_emptyStatement_14 : decode c_Pa_emptyStatement 14 = .ok (.aload_n 0, 1) := by decide +kernel
theorem d_Pa_emptyStatement_15 : decode c_Pa_emptyStatement 15 = .ok (.dup, 1) := by decide +kernel
theorem d_Pa_emptyStatement_16 : decode c_Pa_emptyStatement 16 = .ok (.getfield 26, 3) := by decide +kernel
theorem d_Pa_emptyStatement_19 : decode c_Pa_emptyStatement 19 = .ok (.iconst 1, 1) := by decide +kernel
theorem d_Pa_emptyStatement_20 : decode c_Pa_emptyStatement 20 = .ok (.iadd, 1) := by decide +kernel
theorem d_Pa_emptyStatement_21 : decode c_Pa_emptyStatement 21 = .ok (.putfield 26, 3) := by decide +kernel
theorem d_Pa_emptyStatement_24 : decode c_Pa_emptyStatement 24 = .ok (.return_, 1) := by decide +kernel
theorem d_Pa_debuggerStatement_0 : decode c_Pa_debuggerStatement 0 = .ok (.aload_n 0, 1) := by decide +kernel
theorem d_Pa_debuggerStatement_1 : decode c_Pa_debuggerStatement 1 = .ok (.getfield 22, 3) := by decide +kernel
theorem d_Pa_debuggerStatement_4 : decode c_Pa_debuggerStatement 4 = .ok (.bipush 23, 2) := by decide +kernel
theorem d_Pa_debuggerStatement_6 : decode c_Pa_debuggerStatement 6 = .ok (.iconst 0, 1) := by decide +kernel
theorem d_Pa_debuggerStatement_7 : decode c_Pa_debuggerStatement 7 = .ok (.aload_n 0, 1) := by decide +kernel
theorem d_Pa_debuggerStatement_8 : decode c_Pa_debuggerStatement 8 = .ok (.getfield 26, 3) := by decide +kernel
theorem d_Pa_debuggerStatement_11 : decode c_Pa_debuggerStatement 11 = .ok (.invokevirtual 54, 3) := by decide +kernel
theorem d_Pa_debuggerStatement_14 : decode c_Pa_debuggerStatement 14 = .ok (.pop, 1) := by decide +kernel
theorem d_Pa_debuggerStatement_15 : decode c_Pa_debuggerStatement 15 = .ok (.aload_n 0, 1) := by decide +kernel
theorem d_Pa_debuggerStatement_16 : decode c_Pa_debuggerStatement 16 = .ok (.dup, 1) := by decide +kernel
theorem d_Pa_debuggerStatement_17 : decode c_Pa_debuggerStatement 17 = .ok (.getfield 26, 3) := by decide +kernel
theorem d_Pa_debuggerStatement_20 : decode c_Pa_debuggerStatement 20 = .ok (.iconst 1, 1) := by decide +kernel
theorem d_Pa_debuggerStatement_21 : decode c_Pa_debuggerStatement 21 = .ok (.iadd, 1) := by decide +kernel
theorem d_Pa_debuggerStatement_22 : decode c_Pa_debuggerStatement 22 = .ok (.putfield 26, 3) := by decide +kernel
theorem d_Pa_debuggerStatement_25 : decode c_Pa_debuggerStatement 25 = .ok (.aload_n 0, 1) := by decide +kernel
theorem d_Pa_debuggerStatement_26 : decode c_Pa_debuggerStatement 26 = .ok (.invokevirtual 172, 3) := by decide +kernel
theorem d_Pa_debuggerStatement_29 : decode c_Pa_debuggerStatement 29 = .ok (.return_, 1) := by decide +kernel
theorem d_Pa_expressionStatement_0 : decode c_Pa_expressionStatement 0 = .ok (.aload_n 0, 1) := by decide +kernel
theorem d_Pa_expressionStatement_1 : decode c_Pa_expressionStatement 1 = .ok (.bipush 11, 2) := by decide +kernel
theorem d_Pa_expressionStatement_3 : decode c_Pa_expressionStatement 3 = .ok (.invokevirtual 66, 3) := by decide +kernel
theorem d_Pa_expressionStatement_6 : decode c_Pa_expressionStatement 6 = .ok (.ifCond .eq 11, 3) := by decide +kernel
theorem d_Pa_expressionStatement_9 : decode c_Pa_expressionStatement 9 = .ok (.aload_n 0, 1) := by decide +kernel
theorem d_Pa_expressionStatement_10 : decode c_Pa_expressionStatement 10 = .ok (.aload_n 0, 1) := by decide +kernel
theorem d_Pa_expressionStatement_11 : decode c_Pa_expressionStatement 11 = .ok (.getfield 26, 3) := by decide +kernel
theorem d_Pa_expressionStatement_14 : decode c_Pa_expressionStatement 14 = .ok (.invokevirtual 140, 3) := by decide +kernel
theorem d_Pa_expressionStatement_17 : decode c_Pa_expressionStatement 17 = .ok (.aload_n 0, 1) := by decide +kernel
theorem d_Pa_expressionStatement_18 : decode c_Pa_expressionStatement 18 = .ok (.getfield 22, 3) := by decide +kernel
theorem d_Pa_expressionStatement_21 : decode c_Pa_expressionStatement 21 = .ok (.iconst 5, 1) := by decide +kernel
theorem d_Pa_expressionStatement_22 : decode c_Pa_expressionStatement 22 = .ok (.iconst 0, 1) := by decide +kernel
theorem d_Pa_expressionStatement_23 : decode c_Pa_expressionStatement 23 = .ok (.aload_n 0, 1) := by decide +kernel
theorem d_Pa_expressionStatement_24 : decode c_Pa_expressionStatement 24 = .ok (.getfield 26, 3) := by decide +kernel
theorem d_Pa_expressionStatement_27 : decode c_Pa_expressionStatement 27 = .ok (.invokevirtual 54, 3) := by decide +kernel
theorem d_Pa_expressionStatement_30 : decode c_Pa_expressionStatement 30 = .ok (.istore_n 2, 1) := by decide +kernel
theorem d_Pa_expressionStatement_31 : decode c_Pa_expressionStatement 31 = .ok (.aload_n 0, 1) := by decide +kernel
theorem d_Pa_expressionStatement_32 : decode c_Pa_expressionStatement 32 = .ok (.iconst (-1), 1) := by decide +kernel
theorem d_Pa_expressionStatement_33 : decode c_Pa_expressionStatement 33 = .ok (.iload_n 1, 1) := by decide +kernel
theorem d_Pa_expressionStatement_34 : decode c_Pa_expressionStatement 34 = .ok (.iconst 1, 1) := by decide +kernel
theorem d_Pa_expressionStatement_35 : decode c_Pa_expressionStatement 35 = .ok (.iadd, 1) := by decide +kernel
theorem d_Pa_expressionStatement_36 : decode c_Pa_expressionStatement 36 = .ok (.iconst 1, 1) := by decide +kernel
theorem d_Pa_expressionStatement_37 : decode c_Pa_expressionStatement 37 = .ok (.invokevirtual 232, 3) := by decide +kernel
theorem d_Pa_expressionStatement_40 : decode c_Pa_expressionStatement 40 = .ok (.aload_n 0, 1) := by decide +kernel
theorem d_Pa_expressionStatement_41 : decode c_Pa_expressionStatement 41 = .ok (.invokevirtual 172, 3) := by decide +kernel
theorem d_Pa_expressionStatement_44 : decode c_Pa_expressionStatement 44 = .ok (.aload_n 0, 1) := by decide +kernel
theorem d_Pa_expressionStatement_45 : decode c_Pa_expressionStatement 45 = .ok (.getfield 22, 3) := by decide +kernel
theorem d_Pa_expressionStatement_48 : decode c_Pa_expressionStatement 48 = .ok (.iload_n 2, 1) := by decide +kernel
theorem d_Pa_expressionStatement_49 : decode c_Pa_expressionStatement 49 = .ok (.invokevirtual 98, 3) := by decide +kernel
theorem d_Pa_expressionStatement_52 : decode c_Pa_expressionStatement 52 = .ok (.return_, 1) := by decide +kernel
theorem d_Pa_labelled_0 : decode c_Pa_labelled 0 = .ok (.aload_n 0, 1) := by decide +kernel
theorem d_Pa_labelled_1 : decode c_Pa_labelled 1 = .ok (.iload_n 1, 1) := by decide +kernel
theorem d_Pa_labelled_2 : decode c_Pa_labelled 2 = .ok (.iconst 1, 1) := by decide +kernel
theorem d_Pa_labelled_3 : decode c_Pa_labelled 3 = .ok (.iadd, 1) := by decide +kernel
theorem d_Pa_labelled_4 : decode c_Pa_labelled 4 = .ok (.invokevirtual 102, 3) := by decide +kernel
theorem d_Pa_labelled_7 : decode c_Pa_labelled 7 = .ok (.aload_n 0, 1) := by decide +kernel
theorem d_Pa_labelled_8 : decode c_Pa_labelled 8 = .ok (.getfield 84, 3) := by decide +kernel
theorem d_Pa_labelled_11 : decode c_Pa_labelled 11 = .ok (.aload_n 0, 1) := by decide +kernel
theorem d_Pa_labelled_12 : decode c_Pa_labelled 12 = .ok (.getfield 26, 3) := by decide +kernel
theorem d_Pa_labelled_15 : decode c_Pa_labelled 15 = .ok (.invokevirtual 159, 3) := by decide +kernel
theorem d_Pa_labelled_18 : decode c_Pa_labelled 18 = .ok (.istore_n 3, 1) := by decide +kernel
theorem d_Pa_labelled_19 : decode c_Pa_labelled 19 = .ok (.aload_n 0, 1) := by decide +kernel
theorem d_Pa_labelled_20 : decode c_Pa_labelled 20 = .ok (.getfield 12, 3) := by decide +kernel
theorem d_Pa_labelled_23 : decode c_Pa_labelled 23 = .ok (.aload_n 0, 1) := by decide +kernel
theorem d_Pa_labelled_24 : decode c_Pa_labelled 24 = .ok (.getfield 37, 3) := by decide +kernel
theorem d_Pa_labelled_27 : decode c_Pa_labelled 27 = .ok (.getfield 236, 3) := by decide +kernel
theorem d_Pa_labelled_30 : decode c_Pa_labelled 30 = .ok (.iload_n 3, 1) := by decide +kernel
theorem d_Pa_labelled_31 : decode c_Pa_labelled 31 = .ok (.invokevirtual 239, 3) := by decide +kernel
theorem d_Pa_labelled_34 : decode c_Pa_labelled 34 = .ok (.iconst (-1), 1) := by decide +kernel
theorem d_Pa_labelled_35 : decode c_Pa_labelled 35 = .ok (.if_icmp .eq 11, 3) := by decide +kernel
theorem d_Pa_labelled_38 : decode c_Pa_labelled 38 = .ok (.aload_n 0, 1) := by decide +kernel
theorem d_Pa_labelled_39 : decode c_Pa_labelled 39 = .ok (.aload_n 0, 1) := by decide +kernel
theorem d_Pa_labelled_40 : decode c_Pa_labelled 40 = .ok (.getfield 26, 3) := by decide +kernel
theorem d_Pa_labelled_43 : decode c_Pa_labelled 43 = .ok (.invokevirtual 140, 3) := by decide +kernel
theorem d_Pa_labelled_46 : decode c_Pa_labelled 46 = .ok (.aload_n 0, 1) := by decide +kernel
theorem d_Pa_labelled_47 : decode c_Pa_labelled 47 = .ok (.getfield 22, 3) := by decide +kernel
theorem d_Pa_labelled_50 : decode c_Pa_labelled 50 = .ok (.bipush 18, 2) := by decide +kernel
theorem d_Pa_labelled_52 : decode c_Pa_labelled 52 = .ok (.iload_n 3, 1) := by decide +kernel
theorem d_Pa_labelled_53 : decode c_Pa_labelled 53 = .ok (.aload_n 0, 1) := by decide +kernel
theorem d_Pa_labelled_54 : decode c_Pa_labelled 54 = .ok (.getfield 26, 3) := by decide +kernel
theorem d_Pa_labelled_57 : decode c_Pa_labelled 57 = .ok (.invokevirtual 54, 3) := by decide +kernel
theorem d_Pa_labelled_60 : decode c_Pa_labelled 60 = .ok (.istore 4, 2) := by decide +kernel
theorem d_Pa_labelled_62 : decode c_Pa_labelled 62 = .ok (.aload_n 0, 1) := by decide +kernel
theorem d_Pa_labelled_63 : decode c_Pa_labelled 63 = .ok (.dup, 1) := by decide +kernel
theorem d_Pa_labelled_64 : decode c_Pa_labelled 64 = .ok (.getfield 26, 3) := by decide +kernel
theorem d_Pa_labelled_67 : decode c_Pa_labelled 67 = .ok (.iconst 2, 1) := by decide +kernel
theorem d_Pa_labelled_68 : decode c_Pa_labelled 68 = .ok (.iadd, 1) := by decide +kernel
theorem d_Pa_labelled_69 : decode c_Pa_labelled 69 = .ok (.putfield 26, 3) := by decide +kernel
theorem d_Pa_labelled_72 : decode c_Pa_labelled 72 = .ok (.aload_n 0, 1) := by decide +kernel
theorem d_Pa_labelled_73 : decode c_Pa_labelled 73 = .ok (.getfield 12, 3) := by decide +kernel
theorem d_Pa_labelled_76 : decode c_Pa_labelled 76 = .ok (.iload_n 3, 1) := by decide +kernel
theorem d_Pa_labelled_77 : decode c_Pa_labelled 77 = .ok (.invokevirtual 243, 3) := by decide +kernel
theorem d_Pa_labelled_80 : decode c_Pa_labelled 80 = .ok (.aload_n 0, 1) := by decide +kernel
theorem d_Pa_labelled_81 : decode c_Pa_labelled 81 = .ok (.iload_n 1, 1) := by decide +kernel
theorem d_Pa_labelled_82 : decode c_Pa_labelled 82 = .ok (.iconst 1, 1) := by decide +kernel
theorem d_Pa_labelled_83 : decode c_Pa_labelled 83 = .ok (.iadd, 1) := by decide +kernel
theorem d_Pa_labelled_84 : decode c_Pa_labelled 84 = .ok (.iload_n 2, 1) := by decide +kernel
theorem d_Pa_labelled_85 : decode c_Pa_labelled 85 = .ok (.invokevirtual 78, 3) := by decide +kernel
theorem d_Pa_labelled_88 : decode c_Pa_labelled 88 = .ok (.aload_n 0, 1) := by decide +kernel
theorem d_Pa_labelled_89 : decode c_Pa_labelled 89 = .ok (.getfield 12, 3) := by decide +kernel
theorem d_Pa_labelled_92 : decode c_Pa_labelled 92 = .ok (.invokevirtual 246, 3) := by decide +kernel
theorem d_Pa_labelled_95 : decode c_Pa_labelled 95 = .ok (.aload_n 0, 1) := by decide +kernel
theorem d_Pa_labelled_96 : decode c_Pa_labelled 96 = .ok (.getfield 22, 3) := by decide +kernel
theorem d_Pa_labelled_99 : decode c_Pa_labelled 99 = .ok (.iload 4, 2) := by decide +kernel
theorem d_Pa_labelled_101 : decode c_Pa_labelled 101 = .ok (.invokevirtual 98, 3) := by decide +kernel
theorem d_Pa_labelled_104 : decode c_Pa_labelled 104 = .ok (.return_, 1) := by decide +kernel
theorem d_Pa_variables_0 : decode c_Pa_variables 0 = .ok (.aload_n 0, 1) := by decide +kernel
theorem d_Pa_variables_1 : decode c_Pa_variables 1 = .ok (.getfield 22, 3) := by decide +kernel
theorem d_Pa_variables_4 : decode c_Pa_variables 4 = .ok (.iconst 2, 1) := by decide +kernel
theorem d_Pa_variables_5 : decode c_Pa_variables 5 = .ok (.iconst 0, 1) := by decide +kernel
theorem d_Pa_variables_6 : decode c_Pa_variables 6 = .ok (.aload_n 0, 1) := by decide +kernel
theorem d_Pa_variables_7 : decode c_Pa_variables 7 = .ok (.getfield 26, 3) := by decide +kernel
theorem d_Pa_variables_10 : decode c_Pa_variables 10 = .ok (.invokevirtual 54, 3) := by decide +kernel
theorem d_Pa_variables_13 : decode c_Pa_variables 13 = .ok (.istore_n 3, 1) := by decide +kernel
theorem d_Pa_variables_14 : decode c_Pa_variables 14 = .ok (.iconst 1, 1) := by decide +kernel
theorem d_Pa_variables_15 : decode c_Pa_variables 15 = .ok (.istore 4, 2) := by decide +kernel
theorem d_Pa_variables_17 : decode c_Pa_variables 17 = .ok (.iconst 0, 1) := by decide +kernel
theorem d_Pa_variables_18 : decode c_Pa_variables 18 = .ok (.istore 5, 2) := by decide +kernel
theorem d_Pa_variables_20 : decode c_Pa_variables 20 = .ok (.iload 5, 2) := by decide +kernel
theorem d_Pa_variables_22 : decode c_Pa_variables 22 = .ok (.sipush 1000, 3) := by decide +kernel
theorem d_Pa_variables_25 : decode c_Pa_variables 25 = .ok (.if_icmp .gt 87, 3) := by decide +kernel
theorem d_Pa_variables_28 : decode c_Pa_variables 28 = .ok (.iload 4, 2) := by decide +kernel
theorem d_Pa_variables_30 : decode c_Pa_variables 30 = .ok (.ifCond .eq 82, 3) := by decide +kernel
theorem d_Pa_variables_33 : decode c_Pa_variables 33 = .ok (.aload_n 0, 1) := by decide +kernel
theorem d_Pa_variables_34 : decode c_Pa_variables 34 = .ok (.dup, 1) := by decide +kernel
theorem d_Pa_variables_35 : decode c_Pa_variables 35 = .ok (.getfield 26, 3) := by decide +kernel
theorem d_Pa_variables_38 : decode c_Pa_variables 38 = .ok (.iconst 1, 1) := by decide +kernel
theorem d_Pa_variables_39 : decode c_Pa_variables 39 = .ok (.iadd, 1) := by decide +kernel
theorem d_Pa_variables_40 : decode c_Pa_variables 40 = .ok (.putfield 26, 3) := by decide +kernel
theorem d_Pa_variables_43 : decode c_Pa_variables 43 = .ok (.aload_n 0, 1) := by decide +kernel
theorem d_Pa_variables_44 : decode c_Pa_variables 44 = .ok (.getfield 22, 3) := by decide +kernel
theorem d_Pa_variables_47 : decode c_Pa_variables 47 = .ok (.iconst 3, 1) := by decide +kernel
theorem d_Pa_variables_48 : decode c_Pa_variables 48 = .ok (.iconst 0, 1) := by decide +kernel
theorem d_Pa_variables_49 : decode c_Pa_variables 49 = .ok (.aload_n 0, 1) := by decide +kernel
theorem d_Pa_variables_50 : decode c_Pa_variables 50 = .ok (.getfield 26, 3) := by decide +kernel
theorem d_Pa_variables_53 : decode c_Pa_variables 53 = .ok (.invokevirtual 54, 3) := by decide +kernel
theorem d_Pa_variables_56 : decode c_Pa_variables 56 = .ok (.istore 6, 2) := by decide +kernel
theorem d_Pa_variables_58 : decode c_Pa_variables 58 = .ok (.aload_n 0, 1) := by decide +kernel
theorem d_Pa_variables_59 : decode c_Pa_variables 59 = .ok (.getfield 22, 3) := by decide +kernel
theorem d_Pa_variables_62 : decode c_Pa_variables 62 = .ok (.iload 6, 2) := by decide +kernel
theorem d_Pa_variables_64 : decode c_Pa_variables 64 = .ok (.aload_n 0, 1) := by decide +kernel
theorem d_Pa_variables_65 : decode c_Pa_variables 65 = .ok (.invokevirtual 123, 3) := by decide +kernel
theorem d_Pa_variables_68 : decode c_Pa_variables 68 = .ok (.invokevirtual 95, 3) := by decide +kernel
theorem d_Pa_variables_71 : decode c_Pa_variables 71 = .ok (.aload_n 0, 1) := by decide +kernel
theorem d_Pa_variables_72 : decode c_Pa_variables 72 = .ok (.bipush 30, 2) := by decide +kernel
theorem d_Pa_variables_74 : decode c_Pa_variables 74 = .ok (.invokevirtual 117, 3) := by decide +kernel
theorem d_Pa_variables_77 : decode c_Pa_variables 77 = .ok (.ifCond .eq 12, 3) := by decide +kernel
theorem d_Pa_variables_80 : decode c_Pa_variables 80 = .ok (.aload_n 0, 1) := by decide +kernel
theorem d_Pa_variables_81 : decode c_Pa_variables 81 = .ok (.iconst 0, 1) := by decide +kernel
theorem d_Pa_variables_82 : decode c_Pa_variables 82 = .ok (.iload_n 1, 1) := by decide +kernel
theorem d_Pa_variables_83 : decode c_Pa_variables 83 = .ok (.iconst 1, 1) := by decide +kernel
theorem d_Pa_variables_84 : decode c_Pa_variables 84 = .ok (.iadd, 1) := by decide +kernel
theorem d_Pa_variables_85 : decode c_Pa_variables 85 = .ok (.iload_n 2, 1) := by decide +kernel
theorem d_Pa_variables_86 : decode c_Pa_variables 86 = .ok (.invokevirtual 232, 3) := by decide +kernel
theorem d_Pa_variables_89 : decode c_Pa_variables 89 = .ok (.aload_n 0, 1) := by decide +kernel
theorem d_Pa_variables_90 : decode c_Pa_variables 90 = .ok (.getfield 22, 3) := by decide +kernel
theorem d_Pa_variables_93 : decode c_Pa_variables 93 = .ok (.iload 6, 2) := by decide +kernel
theorem d_Pa_variables_95 : decode c_Pa_variables 95 = .ok (.invokevirtual 98, 3) := by decide +kernel
theorem d_Pa_variables_98 : decode c_Pa_variables 98 = .ok (.aload_n 0, 1) := by decide +kernel
theorem d_Pa_variables_99 : decode c_Pa_variables 99 = .ok (.bipush 68, 2) := by decide +kernel
theorem d_Pa_variables_101 : decode c_Pa_variables 101 = .ok (.invokevirtual 126, 3) := by decide +kernel
theorem d_Pa_variables_104 : decode c_Pa_variables 104 = .ok (.istore 4, 2) := by decide +kernel
theorem d_Pa_variables_106 : decode c_Pa_variables 106 = .ok (.iinc 5 1, 3) := by decide +kernel
theorem d_Pa_variables_109 : decode c_Pa_variables 109 = .ok (.goto (-89), 3) := by decide +kernel
theorem d_Pa_variables_112 : decode c_Pa_variables 112 = .ok (.aload_n 0, 1) := by decide +kernel
theorem d_Pa_variables_113 : decode c_Pa_variables 113 = .ok (.getfield 22, 3) := by decide +kernel
theorem d_Pa_variables_116 : decode c_Pa_variables 116 = .ok (.iload_n 3, 1) := by decide +kernel
theorem d_Pa_variables_117 : decode c_Pa_variables 117 = .ok (.invokevirtual 98, 3) := by decide +kernel
theorem d_Pa_variables_120 : decode c_Pa_variables 120 = .ok (.return_, 1) := by decide +kernel
theorem d_Pa_ifStatement_0 : decode c_Pa_ifStatement 0 = .ok (.aload_n 0, 1) := by decide +kernel
theorem d_Pa_ifStatement_1 : decode c_Pa_ifStatement 1 = .ok (.getfield 22, 3) := by decide +kernel
theorem d_Pa_ifStatement_4 : decode c_Pa_ifStatement 4 = .ok (.bipush 6, 2) := by decide +kernel
theorem d_Pa_ifStatement_6 : decode c_Pa_ifStatement 6 = .ok (.iconst 0, 1) := by decide +kernel
theorem d_Pa_ifStatement_7 : decode c_Pa_ifStatement 7 = .ok (.aload_n 0, 1) := by decide +kernel
theorem d_Pa_ifStatement_8 : decode c_Pa_ifStatement 8 = .ok (.getfield 26, 3) := by decide +kernel
theorem d_Pa_ifStatement_11 : decode c_Pa_ifStatement 11 = .ok (.invokevirtual 54, 3) := by decide +kernel
theorem d_Pa_ifStatement_14 : decode c_Pa_ifStatement 14 = .ok (.istore_n 2, 1) := by decide +kernel
theorem d_Pa_ifStatement_15 : decode c_Pa_ifStatement 15 = .ok (.aload_n 0, 1) := by decide +kernel
theorem d_Pa_ifStatement_16 : decode c_Pa_ifStatement 16 = .ok (.dup, 1) := by decide +kernel
theorem d_Pa_ifStatement_17 : decode c_Pa_ifStatement 17 = .ok (.getfield 26, 3) := by decide +kernel
theorem d_Pa_ifStatement_20 : decode c_Pa_ifStatement 20 = .ok (.iconst 1, 1) := by decide +kernel
theorem d_Pa_ifStatement_21 : decode c_Pa_ifStatement 21 = .ok (.iadd, 1) := by decide +kernel
theorem d_Pa_ifStatement_22 : decode c_Pa_ifStatement 22 = .ok (.putfield 26, 3) := by decide +kernel
theorem d_Pa_ifStatement_25 : decode c_Pa_ifStatement 25 = .ok (.aload_n 0, 1) := by decide +kernel
theorem d_Pa_ifStatement_26 : decode c_Pa_ifStatement 26 = .ok (.bipush 60, 2) := by decide +kernel
theorem d_Pa_ifStatement_28 : decode c_Pa_ifStatement 28 = .ok (.invokevirtual 114, 3) := by decide +kernel
theorem d_Pa_ifStatement_31 : decode c_Pa_ifStatement 31 = .ok (.aload_n 0, 1) := by decide +kernel
theorem d_Pa_ifStatement_32 : decode c_Pa_ifStatement 32 = .ok (.iconst (-1), 1) := by decide +kernel
theorem d_Pa_ifStatement_33 : decode c_Pa_ifStatement 33 = .ok (.iload_n 1, 1) := by decide +kernel
theorem d_Pa_ifStatement_34 : decode c_Pa_ifStatement 34 = .ok (.iconst 1, 1) := by decide +kernel
theorem d_Pa_ifStatement_35 : decode c_Pa_ifStatement 35 = .ok (.iadd, 1) := by decide +kernel
theorem d_Pa_ifStatement_36 : decode c_Pa_ifStatement 36 = .ok (.iconst 1, 1) := by decide +kernel
theorem d_Pa_ifStatement_37 : decode c_Pa_ifStatement 37 = .ok (.invokevirtual 232, 3) := by decide +kernel
theorem d_Pa_ifStatement_40 : decode c_Pa_ifStatement 40 = .ok (.aload_n 0, 1) := by decide +kernel
theorem d_Pa_ifStatement_41 : decode c_Pa_ifStatement 41 = .ok (.bipush 61, 2) := by decide +kernel
theorem d_Pa_ifStatement_43 : decode c_Pa_ifStatement 43 = .ok (.invokevirtual 114, 3) := by decide +kernel
theorem d_Pa_ifStatement_46 : decode c_Pa_ifStatement 46 = .ok (.aload_n 0, 1) := by decide +kernel
theorem d_Pa_ifStatement_47 : decode c_Pa_ifStatement 47 = .ok (.iload_n 1, 1) := by decide +kernel
theorem d_Pa_ifStatement_48 : decode c_Pa_ifStatement 48 = .ok (.iconst 1, 1) := by decide +kernel
theorem d_Pa_ifStatement_49 : decode c_Pa_ifStatement 49 = .ok (.iadd, 1) := by decide +kernel
theorem d_Pa_ifStatement_50 : decode c_Pa_ifStatement 50 = .ok (.aload_n 0, 1) := by decide +kernel
theorem d_Pa_ifStatement_51 : decode c_Pa_ifStatement 51 = .ok (.getfield 12, 3) := by decide +kernel
theorem d_Pa_ifStatement_54 : decode c_Pa_ifStatement 54 = .ok (.invokevirtual 74, 3) := by decide +kernel
theorem d_Pa_ifStatement_57 : decode c_Pa_ifStatement 57 = .ok (.invokevirtual 78, 3) := by decide +kernel
theorem d_Pa_ifStatement_60 : decode c_Pa_ifStatement 60 = .ok (.aload_n 0, 1) := by decide +kernel
theorem d_Pa_ifStatement_61 : decode c_Pa_ifStatement 61 = .ok (.bipush 8, 2) := by decide +kernel
theorem d_Pa_ifStatement_63 : decode c_Pa_ifStatement 63 = .ok (.invokevirtual 66, 3) := by decide +kernel
theorem d_Pa_ifStatement_66 : decode c_Pa_ifStatement 66 = .ok (.ifCond .eq 27, 3) := by decide +kernel
theorem d_Pa_ifStatement_69 : decode c_Pa_ifStatement 69 = .ok (.aload_n 0, 1) := by decide +kernel
theorem d_Pa_ifStatement_70 : decode c_Pa_ifStatement 70 = .ok (.dup, 1) := by decide +kernel
theorem d_Pa_ifStatement_71 : decode c_Pa_ifStatement 71 = .ok (.getfield 26, 3) := by decide +kernel
theorem d_Pa_ifStatement_74 : decode c_Pa_ifStatement 74 = .ok (.iconst 1, 1) := by decide +kernel
theorem d_Pa_ifStatement_75 : decode c_Pa_ifStatement 75 = .ok (.iadd, 1) := by decide +kernel
theorem d_Pa_ifStatement_76 : decode c_Pa_ifStatement 76 = .ok (.putfield 26, 3) := by decide +kernel
theorem d_Pa_ifStatement_79 : decode c_Pa_ifStatement 79 = .ok (.aload_n 0, 1) := by decide +kernel
theorem d_Pa_ifStatement_80 : decode c_Pa_ifStatement 80 = .ok (.iload_n 1, 1) := by decide +kernel
theorem d_Pa_ifStatement_81 : decode c_Pa_ifStatement 81 = .ok (.iconst 1, 1) := by decide +kernel
theorem d_Pa_ifStatement_82 : decode c_Pa_ifStatement 82 = .ok (.iadd, 1) := by decide +kernel
theorem d_Pa_ifStatement_83 : decode c_Pa_ifStatement 83 = .ok (.aload_n 0, 1) := by decide +kernel
theorem d_Pa_ifStatement_84 : decode c_Pa_ifStatement 84 = .ok (.getfield 12, 3) := by decide +kernel
theorem d_Pa_ifStatement_87 : decode c_Pa_ifStatement 87 = .ok (.invokevirtual 74, 3) := by decide +kernel
theorem d_Pa_ifStatement_90 : decode c_Pa_ifStatement 90 = .ok (.invokevirtual 78, 3) := by decide +kernel
theorem d_Pa_ifStatement_93 : decode c_Pa_ifStatement 93 = .ok (.aload_n 0, 1) := by decide +kernel
theorem d_Pa_ifStatement_94 : decode c_Pa_ifStatement 94 = .ok (.getfield 22, 3) := by decide +kernel
theorem d_Pa_ifStatement_97 : decode c_Pa_ifStatement 97 = .ok (.iload_n 2, 1) := by decide +kernel
theorem d_Pa_ifStatement_98 : decode c_Pa_ifStatement 98 = .ok (.invokevirtual 98, 3) := by decide +kernel
theorem d_Pa_ifStatement_101 : decode c_Pa_ifStatement 101 = .ok (.return_, 1) := by decide +kernel
theorem d_Pa_doStatement_0 : decode c_Pa_doStatement 0 = .ok (.aload_n 0, 1) := by decide +kernel
theorem d_Pa_doStatement_1 : decode c_Pa_doStatement 1 = .ok (.getfield 12, 3) := by decide +kernel
theorem d_Pa_doStatement_4 : decode c_Pa_doStatement 4 = .ok (.iload_n 2, 1) := by decide +kernel
theorem d_Pa_doStatement_5 : decode c_Pa_doStatement 5 = .ok (.invokevirtual 249, 3) := by decide +kernel
theorem d_Pa_doStatement_8 : decode c_Pa_doStatement 8 = .ok (.aload_n 0, 1) := by decide +kernel
theorem d_Pa_doStatement_9 : decode c_Pa_doStatement 9 = .ok (.getfield 22, 3) := by decide +kernel
theorem d_Pa_doStatement_12 : decode c_Pa_doStatement 12 = .ok (.bipush 7, 2) := by decide +kernel
theorem d_Pa_doStatement_14 : decode c_Pa_doStatement 14 = .ok (.iconst 0, 1) := by decide +kernel
theorem d_Pa_doStatement_15 : decode c_Pa_doStatement 15 = .ok (.aload_n 0, 1) := by decide +kernel
theorem d_Pa_doStatement_16 : decode c_Pa_doStatement 16 = .ok (.getfield 26, 3) := by decide +kernel
theorem d_Pa_doStatement_19 : decode c_Pa_doStatement 19 = .ok (.invokevirtual 54, 3) := by decide +kernel
theorem d_Pa_doStatement_22 : decode c_Pa_doStatement 22 = .ok (.istore_n 3, 1) := by decide +kernel
theorem d_Pa_doStatement_23 : decode c_Pa_doStatement 23 = .ok (.aload_n 0, 1) := by decide +kernel
theorem d_Pa_doStatement_24 : decode c_Pa_doStatement 24 = .ok (.dup, 1) := by decide +kernel
theorem d_Pa_doStatement_25 : decode c_Pa_doStatement 25 = .ok (.getfield 26, 3) := by decide +kernel
theorem d_Pa_doStatement_28 : decode c_Pa_doStatement 28 = .ok (.iconst 1, 1) := by decide +kernel
theorem d_Pa_doStatement_29 : decode c_Pa_doStatement 29 = .ok (.iadd, 1) := by decide +kernel
theorem d_Pa_doStatement_30 : decode c_Pa_doStatement 30 = .ok (.putfield 26, 3) := by decide +kernel
theorem d_Pa_doStatement_33 : decode c_Pa_doStatement 33 = .ok (.aload_n 0, 1) := by decide +kernel
theorem d_Pa_doStatement_34 : decode c_Pa_doStatement 34 = .ok (.getfield 37, 3) := by decide +kernel
theorem d_Pa_doStatement_37 : decode c_Pa_doStatement 37 = .ok (.dup, 1) := by decide +kernel
theorem d_Pa_doStatement_38 : decode c_Pa_doStatement 38 = .ok (.getfield 252, 3) := by decide +kernel
theorem d_Pa_doStatement_41 : decode c_Pa_doStatement 41 = .ok (.iconst 1, 1) := by decide +kernel
theorem d_Pa_doStatement_42 : decode c_Pa_doStatement 42 = .ok (.iadd, 1) := by decide +kernel
theorem d_Pa_doStatement_43 : decode c_Pa_doStatement 43 = .ok (.putfield 252, 3) := by decide +kernel
theorem d_Pa_doStatement_46 : decode c_Pa_doStatement 46 = .ok (.aload_n 0, 1) := by decide +kernel
theorem d_Pa_doStatement_47 : decode c_Pa_doStatement 47 = .ok (.iload_n 1, 1) := by decide +kernel
theorem d_Pa_doStatement_48 : decode c_Pa_doStatement 48 = .ok (.iconst 1, 1) := by decide +kernel
theorem d_Pa_doStatement_49 : decode c_Pa_doStatement 49 = .ok (.iadd, 1) := by decide +kernel
theorem d_Pa_doStatement_50 : decode c_Pa_doStatement 50 = .ok (.aload_n 0, 1) := by decide +kernel
theorem d_Pa_doStatement_51 : decode c_Pa_doStatement 51 = .ok (.getfield 12, 3) := by decide +kernel
theorem d_Pa_doStatement_54 : decode c_Pa_doStatement 54 = .ok (.invokevirtual 74, 3) := by decide +kernel
theorem d_Pa_doStatement_57 : decode c_Pa_doStatement 57 = .ok (.invokevirtual 78, 3) := by decide +kernel
theorem d_Pa_doStatement_60 : decode c_Pa_doStatement 60 = .ok (.aload_n 0, 1) := by decide +kernel
theorem d_Pa_doStatement_61 : decode c_Pa_doStatement 61 = .ok (.getfield 37, 3) := by decide +kernel
theorem d_Pa_doStatement_64 : decode c_Pa_doStatement 64 = .ok (.dup, 1) := by decide +kernel
theorem d_Pa_doStatement_65 : decode c_Pa_doStatement 65 = .ok (.getfield 252, 3) := by decide +kernel
theorem d_Pa_doStatement_68 : decode c_Pa_doStatement 68 = .ok (.iconst 1, 1) := by decide +kernel
theorem d_Pa_doStatement_69 : decode c_Pa_doStatement 69 = .ok (.isub, 1) := by decide +kernel
theorem d_Pa_doStatement_70 : decode c_Pa_doStatement 70 = .ok (.putfield 252, 3) := by decide +kernel
theorem d_Pa_doStatement_73 : decode c_Pa_doStatement 73 = .ok (.aload_n 0, 1) := by decide +kernel
theorem d_Pa_doStatement_74 : decode c_Pa_doStatement 74 = .ok (.bipush 24, 2) := by decide +kernel
theorem d_Pa_doStatement_76 : decode c_Pa_doStatement 76 = .ok (.invokevirtual 255, 3) := by decide +kernel
theorem d_Pa_doStatement_79 : decode c_Pa_doStatement 79 = .ok (.aload_n 0, 1) := by decide +kernel
theorem d_Pa_doStatement_80 : decode c_Pa_doStatement 80 = .ok (.bipush 60, 2) := by decide +kernel
theorem d_Pa_doStatement_82 : decode c_Pa_doStatement 82 = .ok (.invokevirtual 114, 3) := by decide +kernel
theorem d_Pa_doStatement_85 : decode c_Pa_doStatement 85 = .ok (.aload_n 0, 1) := by decide +kernel
theorem d_Pa_doStatement_86 : decode c_Pa_doStatement 86 = .ok (.iconst (-1), 1) := by decide +kernel
theorem d_Pa_doStatement_87 : decode c_Pa_doStatement 87 = .ok (.iload_n 1, 1) := by decide +kernel
theorem d_Pa_doStatement_88 : decode c_Pa_doStatement 88 = .ok (.iconst 1, 1) := by decide +kernel
theorem d_Pa_doStatement_89 : decode c_Pa_doStatement 89 = .ok (.iadd, 1) := by decide +kernel
theorem d_Pa_doStatement_90 : decode c_Pa_doStatement 90 = .ok (.iconst 1, 1) := by decide +kernel
theorem d_Pa_doStatement_91 : decode c_Pa_doStatement 91 = .ok (.invokevirtual 232, 3) := by decide +kernel
theorem d_Pa_doStatement_94 : decode c_Pa_doStatement 94 = .ok (.aload_n 0, 1) := by decide +kernel
theorem d_Pa_doStatement_95 : decode c_Pa_doStatement 95 = .ok (.bipush 61, 2) := by decide +kernel
theorem d_Pa_doStatement_97 : decode c_Pa_doStatement 97 = .ok (.invokevirtual 114, 3) := by decide +kernel
theorem d_Pa_doStatement_100 : decode c_Pa_doStatement 100 = .ok (.aload_n 0, 1) := by decide +kernel
theorem d_Pa_doStatement_101 : decode c_Pa_doStatement 101 = .ok (.invokevirtual 172, 3) := by decide +kernel
theorem d_Pa_doStatement_104 : decode c_Pa_doStatement 104 = .ok (.aload_n 0, 1) := by decide +kernel
theorem d_Pa_doStatement_105 : decode c_Pa_doStatement 105 = .ok (.getfield 22, 3) := by decide +kernel
theorem d_Pa_doStatement_108 : decode c_Pa_doStatement 108 = .ok (.iload_n 3, 1) := by decide +kernel
theorem d_Pa_doStatement_109 : decode c_Pa_doStatement 109 = .ok (.invokevirtual 98, 3) := by decide +kernel
theorem d_Pa_doStatement_112 : decode c_Pa_doStatement 112 = .ok (.return_, 1) := by decide +kernel
theorem d_Pa_whileStatement_0 : decode c_Pa_whileStatement 0 = .ok (.aload_n 0, 1) := by decide +kernel
theorem d_Pa_whileStatement_1 : decode c_Pa_whileStatement 1 = .ok (.getfield 12, 3) := by decide +kernel
theorem d_Pa_whileStatement_4 : decode c_Pa_whileStatement 4 = .ok (.iload_n 2, 1) := by decide +kernel
theorem d_Pa_whileStatement_5 : decode c_Pa_whileStatement 5 = .ok (.invokevirtual 249, 3) := by decide +kernel
theorem d_Pa_whileStatement_8 : decode c_Pa_whileStatement 8 = .ok (.aload_n 0, 1) := by decide +kernel
theorem d_Pa_whileStatement_9 : decode c_Pa_whileStatement 9 = .ok (.getfield 22, 3) := by decide +kernel
theorem d_Pa_whileStatement_12 : decode c_Pa_whileStatement 12 = .ok (.bipush 8, 2) := by decide +kernel
theorem d_Pa_whileStatement_14 : decode c_Pa_whileStatement 14 = .ok (.iconst 0, 1) := by decide +kernel
theorem d_Pa_whileStatement_15 : decode c_Pa_whileStatement 15 = .ok (.aload_n 0, 1) := by decide +kernel
theorem d_Pa_whileStatement_16 : decode c_Pa_whileStatement 16 = .ok (.getfield 26, 3) := by decide +kernel
theorem d_Pa_whileStatement_19 : decode c_Pa_whileStatement 19 = .ok (.invokevirtual 54, 3) := by decide +kernel
theorem d_Pa_whileStatement_22 : decode c_Pa_whileStatement 22 = .ok (.istore_n 3, 1) := by decide +kernel
theorem d_Pa_whileStatement_23 : decode c_Pa_whileStatement 23 = .ok (.aload_n 0, 1) := by decide +kernel
theorem d_Pa_whileStatement_24 : decode c_Pa_whileStatement 24 = .ok (.dup, 1) := by decide +kernel
theorem d_Pa_whileStatement_25 : decode c_Pa_whileStatement 25 = .ok (.getfield 26, 3) := by decide +kernel
theorem d_Pa_whileStatement_28 : decode c_Pa_whileStatement 28 = .ok (.iconst 1, 1) := by decide +kernel
theorem d_Pa_whileStatement_29 : decode c_Pa_whileStatement 29 = .ok (.iadd, 1) := by decide +kernel
theorem d_Pa_whileStatement_30 : decode c_Pa_whileStatement 30 = .ok (.putfield 26, 3) := by decide +kernel
theorem d_Pa_whileStatement_33 : decode c_Pa_whileStatement 33 = .ok (.aload_n 0, 1) := by decide +kernel
theorem d_Pa_whileStatement_34 : decode c_Pa_whileStatement 34 = .ok (.bipush 60, 2) := by decide +kernel
theorem d_Pa_whileStatement_36 : decode c_Pa_whileStatement 36 = .ok (.invokevirtual 114, 3) := by decide +kernel
theorem d_Pa_whileStatement_39 : decode c_Pa_whileStatement 39 = .ok (.aload_n 0, 1) := by decide +kernel
theorem d_Pa_whileStatement_40 : decode c_Pa_whileStatement 40 = .ok (.iconst (-1), 1) := by decide +kernel
theorem d_Pa_whileStatement_41 : decode c_Pa_whileStatement 41 = .ok (.iload_n 1, 1) := by decide +kernel
theorem d_Pa_whileStatement_42 : decode c_Pa_whileStatement 42 = .ok (.iconst 1, 1) := by decide +kernel
theorem d_Pa_whileStatement_43 : decode c_Pa_whileStatement 43 = .ok (.iadd, 1) := by decide +kernel
theorem d_Pa_whileStatement_44 : decode c_Pa_whileStatement 44 = .ok (.iconst 1, 1) := by decide +kernel
theorem d_Pa_whileStatement_45 : decode c_Pa_whileStatement 45 = .ok (.invokevirtual 232, 3) := by decide +kernel
theorem d_Pa_whileStatement_48 : decode c_Pa_whileStatement 48 = .ok (.aload_n 0, 1) := by decide +kernel
theorem d_Pa_whileStatement_49 : decode c_Pa_whileStatement 49 = .ok (.bipush 61, 2) := by decide +kernel
theorem d_Pa_whileStatement_51 : decode c_Pa_whileStatement 51 = .ok (.invokevirtual 114, 3) := by decide +kernel
theorem d_Pa_whileStatement_54 : decode c_Pa_whileStatement 54 = .ok (.aload_n 0, 1) := by decide +kernel
theorem d_Pa_whileStatement_55 : decode c_Pa_whileStatement 55 = .ok (.getfield 37, 3) := by decide +kernel
theorem d_Pa_whileStatement_58 : decode c_Pa_whileStatement 58 = .ok (.dup, 1) := by decide +kernel
theorem d_Pa_whileStatement_59 : decode c_Pa_whileStatement 59 = .ok (.getfield 252, 3) := by decide +kernel
theorem d_Pa_whileStatement_62 : decode c_Pa_whileStatement 62 = .ok (.iconst 1, 1) := by decide +kernel
theorem d_Pa_whileStatement_63 : decode c_Pa_whileStatement 63 = .ok (.iadd, 1) := by decide +kernel
theorem d_Pa_whileStatement_64 : decode c_Pa_whileStatement 64 = .ok (.putfield 252, 3) := by decide +kernel
theorem d_Pa_whileStatement_67 : decode c_Pa_whileStatement 67 = .ok (.aload_n 0, 1) := by decide +kernel
theorem d_Pa_whileStatement_68 : decode c_Pa_whileStatement 68 = .ok (.iload_n 1, 1) := by decide +kernel
theorem d_Pa_whileStatement_69 : decode c_Pa_whileStatement 69 = .ok (.iconst 1, 1) := by decide +kernel
theorem d_Pa_whileStatement_70 : decode c_Pa_whileStatement 70 = .ok (.iadd, 1) := by decide +kernel
theorem d_Pa_whileStatement_71 : decode c_Pa_whileStatement 71 = .ok (.aload_n 0, 1) := by decide +kernel
theorem d_Pa_whileStatement_72 : decode c_Pa_whileStatement 72 = .ok (.getfield 12, 3) := by decide +kernel
theorem d_Pa_whileStatement_75 : decode c_Pa_whileStatement 75 = .ok (.invokevirtual 74, 3) := by decide +kernel
theorem d_Pa_whileStatement_78 : decode c_Pa_whileStatement 78 = .ok (.invokevirtual 78, 3) := by decide +kernel
theorem d_Pa_whileStatement_81 : decode c_Pa_whileStatement 81 = .ok (.aload_n 0, 1) := by decide +kernel
theorem d_Pa_whileStatement_82 : decode c_Pa_whileStatement 82 = .ok (.getfield 37, 3) := by decide +kernel
theorem d_Pa_whileStatement_85 : decode c_Pa_whileStatement 85 = .ok (.dup, 1) := by decide +kernel
theorem d_Pa_whileStatement_86 : decode c_Pa_whileStatement 86 = .ok (.getfield 252, 3) := by decide +kernel
theorem d_Pa_whileStatement_89 : decode c_Pa_whileStatement 89 = .ok (.iconst 1, 1) := by decide +kernel
theorem d_Pa_whileStatement_90 : decode c_Pa_whileStatement 90 = .ok (.isub, 1) := by decide +kernel
theorem d_Pa_whileStatement_91 : decode c_Pa_whileStatement 91 = .ok (.putfield 252, 3) := by decide +kernel
theorem d_Pa_whileStatement_94 : decode c_Pa_whileStatement 94 = .ok (.aload_n 0, 1) := by decide +kernel
theorem d_Pa_whileStatement_95 : decode c_Pa_whileStatement 95 = .ok (.getfield 22, 3) := by decide +kernel
theorem d_Pa_whileStatement_98 : decode c_Pa_whileStatement 98 = .ok (.iload_n 3, 1) := by decide +kernel
theorem d_Pa_whileStatement_99 : decode c_Pa_whileStatement 99 = .ok (.invokevirtual 98, 3) := by decide +kernel
theorem d_Pa_whileStatement_102 : decode c_Pa_whileStatement 102 = .ok (.return_, 1) := by decide +kernel
theorem d_Pa_openFor_0 : decode c_Pa_openFor 0 = .ok (.aload_n 0, 1) := by decide +kernel
theorem d_Pa_openFor_1 : decode c_Pa_openFor 1 = .ok (.getfield 12, 3) := by decide +kernel
theorem d_Pa_openFor_4 : decode c_Pa_openFor 4 = .ok (.iload_n 1, 1) := by decide +kernel
theorem d_Pa_openFor_5 : decode c_Pa_openFor 5 = .ok (.invokevirtual 249, 3) := by decide +kernel
theorem d_Pa_openFor_8 : decode c_Pa_openFor 8 = .ok (.aload_n 0, 1) := by decide +kernel
theorem d_Pa_openFor_9 : decode c_Pa_openFor 9 = .ok (.getfield 22, 3) := by decide +kernel
theorem d_Pa_openFor_12 : decode c_Pa_openFor 12 = .ok (.bipush 9, 2) := by decide +kernel
theorem d_Pa_openFor_14 : decode c_Pa_openFor 14 = .ok (.iconst 0, 1) := by decide +kernel
theorem d_Pa_openFor_15 : decode c_Pa_openFor 15 = .ok (.aload_n 0, 1) := by decide +kernel
theorem d_Pa_openFor_16 : decode c_Pa_openFor 16 = .ok (.getfield 26, 3) := by decide +kernel
theorem d_Pa_openFor_19 : decode c_Pa_openFor 19 = .ok (.invokevirtual 54, 3) := by decide +kernel
theorem d_Pa_openFor_22 : decode c_Pa_openFor 22 = .ok (.istore_n 2, 1) := by decide +kernel
theorem d_Pa_openFor_23 : decode c_Pa_openFor 23 = .ok (.aload_n 0, 1) := by decide +kernel
theorem d_Pa_openFor_24 : decode c_Pa_openFor 24 = .ok (.dup, 1) := by decide +kernel
theorem d_Pa_openFor_25 : decode c_Pa_openFor 25 = .ok (.getfield 26, 3) := by decide +kernel
theorem d_Pa_openFor_28 : decode c_Pa_openFor 28 = .ok (.iconst 1, 1) := by decide +kernel
theorem d_Pa_openFor_29 : decode c_Pa_openFor 29 = .ok (.iadd, 1) := by decide +kernel
theorem d_Pa_openFor_30 : decode c_Pa_openFor 30 = .ok (.putfield 26, 3) := by decide +kernel
theorem d_Pa_openFor_33 : decode c_Pa_openFor 33 = .ok (.aload_n 0, 1) := by decide +kernel
theorem d_Pa_openFor_34 : decode c_Pa_openFor 34 = .ok (.bipush 60, 2) := by decide +kernel
theorem d_Pa_openFor_36 : decode c_Pa_openFor 36 = .ok (.invokevirtual 114, 3) := by decide +kernel
theorem d_Pa_openFor_39 : decode c_Pa_openFor 39 = .ok (.iload_n 2, 1) := by decide +kernel
theorem d_Pa_openFor_40 : decode c_Pa_openFor 40 = .ok (.ireturn, 1) := by decide +kernel
theorem d_Pa_forInitial_0 : decode c_Pa_forInitial 0 = .ok (.aload_n 0, 1) := by decide +kernel
theorem d_Pa_forInitial_1 : decode c_Pa_forInitial 1 = .ok (.bipush 67, 2) := by decide +kernel
theorem d_Pa_forInitial_3 : decode c_Pa_forInitial 3 = .ok (.invokevirtual 126, 3) := by decide +kernel
theorem d_Pa_forInitial_6 : decode c_Pa_forInitial 6 = .ok (.ifCond .eq 21, 3) := by decide +kernel
theorem d_Pa_forInitial_9 : decode c_Pa_forInitial 9 = .ok (.aload_n 0, 1) := by decide +kernel
theorem d_Pa_forInitial_10 : decode c_Pa_forInitial 10 = .ok (.getfield 22, 3) := by decide +kernel
theorem d_Pa_forInitial_13 : decode c_Pa_forInitial 13 = .ok (.bipush 59, 2) := by decide +kernel
theorem d_Pa_forInitial_15 : decode c_Pa_forInitial 15 = .ok (.iconst 0, 1) := by decide +kernel
theorem d_Pa_forInitial_16 : decode c_Pa_forInitial 16 = .ok (.aload_n 0, 1) := by decide +kernel
theorem d_Pa_forInitial_17 : decode c_Pa_forInitial 17 = .ok (.getfield 26, 3) := by decide +kernel
theorem d_Pa_forInitial_20 : decode c_Pa_forInitial 20 = .ok (.invokevirtual 54, 3) := by decide +kernel
theorem d_Pa_forInitial_23 : decode c_Pa_forInitial 23 = .ok (.pop, 1) := by decide +kernel
theorem d_Pa_forInitial_24 : decode c_Pa_forInitial 24 = .ok (.goto 12, 3) := by decide +kernel
theorem d_Pa_forInitial_27 : decode c_Pa_forInitial 27 = .ok (.aload_n 0, 1) := by decide +kernel
theorem d_Pa_forInitial_28 : decode c_Pa_forInitial 28 = .ok (.iconst (-1), 1) := by decide +kernel
theorem d_Pa_forInitial_29 : decode c_Pa_forInitial 29 = .ok (.iload_n 1, 1) := by decide +kernel
theorem d_Pa_forInitial_30 : decode c_Pa_forInitial 30 = .ok (.iconst 1, 1) := by decide +kernel
theorem d_Pa_forInitial_31 : decode c_Pa_forInitial 31 = .ok (.iadd, 1) := by decide +kernel
theorem d_Pa_forInitial_32 : decode c_Pa_forInitial 32 = .ok (.iconst 0, 1) := by decide +kernel
theorem d_Pa_forInitial_33 : decode c_Pa_forInitial 33 = .ok (.invokevirtual 232, 3) := by decide +kernel
theorem d_Pa_forInitial_36 : decode c_Pa_forInitial 36 = .ok (.return_, 1) := by decide +kernel
theorem d_Pa_forRest_0 : decode c_Pa_forRest 0 = .ok (.aload_n 0, 1) := by decide +kernel
theorem d_Pa_forRest_1 : decode c_Pa_forRest 1 = .ok (.bipush 13, 2) := by decide +kernel
theorem d_Pa_forRest_3 : decode c_Pa_forRest 3 = .ok (.invokevirtual 66, 3) := by decide +kernel
theorem d_Pa_forRest_6 : decode c_Pa_forRest 6 = .ok (.ifCond .eq 53, 3) := by decide +kernel
theorem d_Pa_forRest_9 : decode c_Pa_forRest 9 = .ok (.aload_n 0, 1) := by decide +kernel
theorem d_Pa_forRest_10 : decode c_Pa_forRest 10 = .ok (.iload_n 1, 1) := by decide +kernel
theorem d_Pa_forRest_11 : decode c_Pa_forRest 11 = .ok (.iconst 1, 1) := by decide +kernel
theorem d_Pa_forRest_12 : decode c_Pa_forRest 12 = .ok (.iadd, 1) := by decide +kernel
theorem d_Pa_forRest_13 : decode c_Pa_forRest 13 = .ok (.invokevirtual 258, 3) := by decide +kernel
theorem d_Pa_forRest_16 : decode c_Pa_forRest 16 = .ok (.ifCond .ne 11, 3) := by decide +kernel
theorem d_Pa_forRest_19 : decode c_Pa_forRest 19 = .ok (.aload_n 0, 1) := by decide +kernel
theorem d_Pa_forRest_20 : decode c_Pa_forRest 20 = .ok (.aload_n 0, 1) := by decide +kernel
theorem d_Pa_forRest_21 : decode c_Pa_forRest 21 = .ok (.getfield 26, 3) := by decide +kernel
theorem d_Pa_forRest_24 : decode c_Pa_forRest 24 = .ok (.invokevirtual 140, 3) := by decide +kernel
theorem d_Pa_forRest_27 : decode c_Pa_forRest 27 = .ok (.aload_n 0, 1) := by decide +kernel
theorem d_Pa_forRest_28 : decode c_Pa_forRest 28 = .ok (.getfield 22, 3) := by decide +kernel
theorem d_Pa_forRest_31 : decode c_Pa_forRest 31 = .ok (.iload_n 1, 1) := by decide +kernel
theorem d_Pa_forRest_32 : decode c_Pa_forRest 32 = .ok (.bipush 10, 2) := by decide +kernel
theorem d_Pa_forRest_34 : decode c_Pa_forRest 34 = .ok (.invokevirtual 261, 3) := by decide +kernel
theorem d_Pa_forRest_37 : decode c_Pa_forRest 37 = .ok (.aload_n 0, 1) := by decide +kernel
theorem d_Pa_forRest_38 : decode c_Pa_forRest 38 = .ok (.dup, 1) := by decide +kernel
theorem d_Pa_forRest_39 : decode c_Pa_forRest 39 = .ok (.getfield 26, 3) := by decide +kernel
theorem d_Pa_forRest_42 : decode c_Pa_forRest 42 = .ok (.iconst 1, 1) := by decide +kernel
theorem d_Pa_forRest_43 : decode c_Pa_forRest 43 = .ok (.iadd, 1) := by decide +kernel
theorem d_Pa_forRest_44 : decode c_Pa_forRest 44 = .ok (.putfield 26, 3) := by decide +kernel
theorem d_Pa_forRest_47 : decode c_Pa_forRest 47 = .ok (.aload_n 0, 1) := by decide +kernel
theorem d_Pa_forRest_48 : decode c_Pa_forRest 48 = .ok (.iconst (-1), 1) := by decide +kernel
theorem d_Pa_forRest_49 : decode c_Pa_forRest 49 = .ok (.iload_n 2, 1) := by decide +kernel
theorem d_Pa_forRest_50 : decode c_Pa_forRest 50 = .ok (.iconst 1, 1) := by decide +kernel
theorem d_Pa_forRest_51 : decode c_Pa_forRest 51 = .ok (.iadd, 1) := by decide +kernel
theorem d_Pa_forRest_52 : decode c_Pa_forRest 52 = .ok (.iconst 1, 1) := by decide +kernel
theorem d_Pa_forRest_53 : decode c_Pa_forRest 53 = .ok (.invokevirtual 232, 3) := by decide +kernel
theorem d_Pa_forRest_56 : decode c_Pa_forRest 56 = .ok (.goto 87, 3) := by decide +kernel
theorem d_Pa_forRest_59 : decode c_Pa_forRest 59 = .ok (.aload_n 0, 1) := by decide +kernel
theorem d_Pa_forRest_60 : decode c_Pa_forRest 60 = .ok (.bipush 67, 2) := by decide +kernel
theorem d_Pa_forRest_62 : decode c_Pa_forRest 62 = .ok (.invokevirtual 114, 3) := by decide +kernel
theorem d_Pa_forRest_65 : decode c_Pa_forRest 65 = .ok (.aload_n 0, 1) := by decide +kernel
theorem d_Pa_forRest_66 : decode c_Pa_forRest 66 = .ok (.bipush 67, 2) := by decide +kernel
theorem d_Pa_forRest_68 : decode c_Pa_forRest 68 = .ok (.invokevirtual 126, 3) := by decide +kernel
theorem d_Pa_forRest_71 : decode c_Pa_forRest 71 = .ok (.ifCond .eq 21, 3) := by decide +kernel
theorem d_Pa_forRest_74 : decode c_Pa_forRest 74 = .ok (.aload_n 0, 1) := by decide +kernel
theorem d_Pa_forRest_75 : decode c_Pa_forRest 75 = .ok (.getfield 22, 3) := by decide +kernel
theorem d_Pa_forRest_78 : decode c_Pa_forRest 78 = .ok (.bipush 59, 2) := by decide +kernel
theorem d_Pa_forRest_80 : decode c_Pa_forRest 80 = .ok (.iconst 0, 1) := by decide +kernel
theorem d_Pa_forRest_81 : decode c_Pa_forRest 81 = .ok (.aload_n 0, 1) := by decide +kernel
theorem d_Pa_forRest_82 : decode c_Pa_forRest 82 = .ok (.getfield 26, 3) := by decide +kernel
theorem d_Pa_forRest_85 : decode c_Pa_forRest 85 = .ok (.invokevirtual 54, 3) := by decide +kernel
theorem d_Pa_forRest_88 : decode c_Pa_forRest 88 = .ok (.pop, 1) := by decide +kernel
theorem d_Pa_forRest_89 : decode c_Pa_forRest 89 = .ok (.goto 12, 3) := by decide +kernel
theorem d_Pa_forRest_92 : decode c_Pa_forRest 92 = .ok (.aload_n 0, 1) := by decide +kernel
theorem d_Pa_forRest_93 : decode c_Pa_forRest 93 = .ok (.iconst (-1), 1) := by decide +kernel
theorem d_Pa_forRest_94 : decode c_Pa_forRest 94 = .ok (.iload_n 2, 1) := by decide +kernel
theorem d_Pa_forRest_95 : decode c_Pa_forRest 95 = .ok (.iconst 1, 1) := by decide +kernel
theorem d_Pa_forRest_96 : decode c_Pa_forRest 96 = .ok (.iadd, 1) := by decide +kernel
theorem d_Pa_forRest_97 : decode c_Pa_forRest 97 = .ok (.iconst 1, 1) := by decide +kernel
theorem d_Pa_forRest_98 : decode c_Pa_forRest 98 = .ok (.invokevirtual 232, 3) := by decide +kernel
theorem d_Pa_forRest_101 : decode c_Pa_forRest 101 = .ok (.aload_n 0, 1) := by decide +kernel
theorem d_Pa_forRest_102 : decode c_Pa_forRest 102 = .ok (.bipush 67, 2) := by decide +kernel
theorem d_Pa_forRest_104 : decode c_Pa_forRest 104 = .ok (.invokevirtual 114, 3) := by decide +kernel
theorem d_Pa_forRest_107 : decode c_Pa_forRest 107 = .ok (.aload_n 0, 1) := by decide +kernel
theorem d_Pa_forRest_108 : decode c_Pa_forRest 108 = .ok (.bipush 61, 2) := by decide +kernel
theorem d_Pa_forRest_110 : decode c_Pa_forRest 110 = .ok (.invokevirtual 126, 3) := by decide +kernel
theorem d_Pa_forRest_113 : decode c_Pa_forRest 113 = .ok (.ifCond .eq 21, 3) := by decide +kernel
theorem d_Pa_forRest_116 : decode c_Pa_forRest 116 = .ok (.aload_n 0, 1) := by decide +kernel
theorem d_Pa_forRest_117 : decode c_Pa_forRest 117 = .ok (.getfield 22, 3) := by decide +kernel
theorem d_Pa_forRest_120 : decode c_Pa_forRest 120 = .ok (.bipush 59, 2) := by decide +kernel
theorem d_Pa_forRest_122 : decode c_Pa_forRest 122 = .ok (.iconst 0, 1) := by decide +kernel
theorem d_Pa_forRest_123 : decode c_Pa_forRest 123 = .ok (.aload_n 0, 1) := by decide +kernel
theorem d_Pa_forRest_124 : decode c_Pa_forRest 124 = .ok (.getfield 26, 3) := by decide +kernel
theorem d_Pa_forRest_127 : decode c_Pa_forRest 127 = .ok (.invokevirtual 54, 3) := by decide +kernel
theorem d_Pa_forRest_130 : decode c_Pa_forRest 130 = .ok (.pop, 1) := by decide +kernel
theorem d_Pa_forRest_131 : decode c_Pa_forRest 131 = .ok (.goto 12, 3) := by decide +kernel
theorem d_Pa_forRest_134 : decode c_Pa_forRest 134 = .ok (.aload_n 0, 1) := by decide +kernel
theorem d_Pa_forRest_135 : decode c_Pa_forRest 135 = .ok (.iconst (-1), 1) := by decide +kernel
theorem d_Pa_forRest_136 : decode c_Pa_forRest 136 = .ok (.iload_n 2, 1) := by decide +kernel
theorem d_Pa_forRest_137 : decode c_Pa_forRest 137 = .ok (.iconst 1, 1) := by decide +kernel
theorem d_Pa_forRest_138 : decode c_Pa_forRest 138 = .ok (.iadd, 1) := by decide +kernel
theorem d_Pa_forRest_139 : decode c_Pa_forRest 139 = .ok (.iconst 1, 1) := by decide +kernel
theorem d_Pa_forRest_140 : decode c_Pa_forRest 140 = .ok (.invokevirtual 232, 3) := by decide +kernel
theorem d_Pa_forRest_143 : decode c_Pa_forRest 143 = .ok (.aload_n 0, 1) := by decide +kernel
theorem d_Pa_forRest_144 : decode c_Pa_forRest 144 = .ok (.bipush 61, 2) := by decide +kernel
theorem d_Pa_forRest_146 : decode c_Pa_forRest 146 = .ok (.invokevirtual 114, 3) := by decide +kernel
theorem d_Pa_forRest_149 : decode c_Pa_forRest 149 = .ok (.aload_n 0, 1) := by decide +kernel
theorem d_Pa_forRest_150 : decode c_Pa_forRest 150 = .ok (.getfield 37, 3) := by decide +kernel
theorem d_Pa_forRest_153 : decode c_Pa_forRest 153 = .ok (.dup, 1) := by decide +kernel
theorem d_Pa_forRest_154 : decode c_Pa_forRest 154 = .ok (.getfield 252, 3) := by decide +kernel
theorem d_Pa_forRest_157 : decode c_Pa_forRest 157 = .ok (.iconst 1, 1) := by decide +kernel
theorem d_Pa_forRest_158 : decode c_Pa_forRest 158 = .ok (.iadd, 1) := by decide +kernel
theorem d_Pa_forRest_159 : decode c_Pa_forRest 159 = .ok (.putfield 252, 3) := by decide +kernel
theorem d_Pa_forRest_162 : decode c_Pa_forRest 162 = .ok (.aload_n 0, 1) := by decide +kernel
theorem d_Pa_forRest_163 : decode c_Pa_forRest 163 = .ok (.iload_n 2, 1) := by decide +kernel
theorem d_Pa_forRest_164 : decode c_Pa_forRest 164 = .ok (.iconst 1, 1) := by decide +kernel
theorem d_Pa_forRest_165 : decode c_Pa_forRest 165 = .ok (.iadd, 1) := by decide +kernel
theorem d_Pa_forRest_166 : decode c_Pa_forRest 166 = .ok (.aload_n 0, 1) := by decide +kernel
theorem d_Pa_forRest_167 : decode c_Pa_forRest 167 = .ok (.getfield 12, 3) := by decide +kernel
theorem d_Pa_forRest_170 : decode c_Pa_forRest 170 = .ok (.invokevirtual 74, 3) := by decide +kernel
theorem d_Pa_forRest_173 : decode c_Pa_forRest 173 = .ok (.invokevirtual 78, 3) := by decide +kernel
theorem d_Pa_forRest_176 : decode c_Pa_forRest 176 = .ok (.aload_n 0, 1) := by decide +kernel
theorem d_Pa_forRest_177 : decode c_Pa_forRest 177 = .ok (.getfield 37, 3) := by decide +kernel
theorem d_Pa_forRest_180 : decode c_Pa_forRest 180 = .ok (.dup, 1) := by decide +kernel
theorem d_Pa_forRest_181 : decode c_Pa_forRest 181 = .ok (.getfield 252, 3) := by decide +kernel
theorem d_Pa_forRest_184 : decode c_Pa_forRest 184 = .ok (.iconst 1, 1) := by decide +kernel
theorem d_Pa_forRest_185 : decode c_Pa_forRest 185 = .ok (.isub, 1) := by decide +kernel
theorem d_Pa_forRest_186 : decode c_Pa_forRest 186 = .ok (.putfield 252, 3) := by decide +kernel
theorem d_Pa_forRest_189 : decode c_Pa_forRest 189 = .ok (.aload_n 0, 1) := by decide +kernel
theorem d_Pa_forRest_190 : decode c_Pa_forRest 190 = .ok (.getfield 22, 3) := by decide +kernel
theorem d_Pa_forRest_193 : decode c_Pa_forRest 193 = .ok (.iload_n 1, 1) := by decide +kernel
theorem d_Pa_forRest_194 : decode c_Pa_forRest 194 = .ok (.invokevirtual 98, 3) := by decide +kernel
theorem d_Pa_forRest_197 : decode c_Pa_forRest 197 = .ok (.return_, 1) := by decide +kernel
theorem d_Pa_mayTakeKeys_0 : decode c_Pa_mayTakeKeys 0 = .ok (.aload_n 0, 1) := by decide +kernel
theorem d_Pa_mayTakeKeys_1 : decode c_Pa_mayTakeKeys 1 = .ok (.getfield 22, 3) := by decide +kernel
theorem d_Pa_mayTakeKeys_4 : decode c_Pa_mayTakeKeys 4 = .ok (.iload_n 1, 1) := by decide +kernel
theorem d_Pa_mayTakeKeys_5 : decode c_Pa_mayTakeKeys 5 = .ok (.invokevirtual 143, 3) := by decide +kernel
theorem d_Pa_mayTakeKeys_8 : decode c_Pa_mayTakeKeys 8 = .ok (.iconst 2, 1) := by decide +kernel
theorem d_Pa_mayTakeKeys_9 : decode c_Pa_mayTakeKeys 9 = .ok (.if_icmp .ne 21, 3) := by decide +kernel
theorem d_Pa_mayTakeKeys_12 : decode c_Pa_mayTakeKeys 12 = .ok (.aload_n 0, 1) := by decide +kernel
theorem d_Pa_mayTakeKeys_13 : decode c_Pa_mayTakeKeys 13 = .ok (.getfield 22, 3) := by decide +kernel
theorem d_Pa_mayTakeKeys_16 : decode c_Pa_mayTakeKeys 16 = .ok (.iload_n 1, 1) := by decide +kernel
theorem d_Pa_mayTakeKeys_17 : decode c_Pa_mayTakeKeys 17 = .ok (.invokevirtual 264, 3) := by decide +kernel
theorem d_Pa_mayTakeKeys_20 : decode c_Pa_mayTakeKeys 20 = .ok (.iconst 1, 1) := by decide +kernel
theorem d_Pa_mayTakeKeys_21 : decode c_Pa_mayTakeKeys 21 = .ok (.if_icmp .ne 7, 3) := by decide +kernel
theorem d_Pa_mayTakeKeys_24 : decode c_Pa_mayTakeKeys 24 = .ok (.iconst 1, 1) := by decide +kernel
theorem d_Pa_mayTakeKeys_25 : decode c_Pa_mayTakeKeys 25 = .ok (.goto 4, 3) := by decide +kernel
theorem d_Pa_mayTakeKeys_28 : decode c_Pa_mayTakeKeys 28 = .ok (.iconst 0, 1) := by decide +kernel
theorem d_Pa_mayTakeKeys_29 : decode c_Pa_mayTakeKeys 29 = .ok (.ireturn, 1) := by decide +kernel
theorem d_Pa_mayTakeKeys_30 : decode c_Pa_mayTakeKeys 30 = .ok (.aload_n 0, 1) := by decide +kernel
theorem d_Pa_mayTakeKeys_31 : decode c_Pa_mayTakeKeys 31 = .ok (.iload_n 1, 1) := by decide +kernel
theorem d_Pa_mayTakeKeys_32 : decode c_Pa_mayTakeKeys 32 = .ok (.invokevirtual 267, 3) := by decide +kernel
theorem d_Pa_mayTakeKeys_35 : decode c_Pa_mayTakeKeys 35 = .ok (.ireturn, 1) := by decide +kernel
theorem d_Pa_jump_0 : decode c_Pa_jump 0 = .ok (.aload_n 0, 1) := by decide +kernel
theorem d_Pa_jump_1 : decode c_Pa_jump 1 = .ok (.getfield 26, 3) := by decide +kernel
theorem d_Pa_jump_4 : decode c_Pa_jump 4 = .ok (.istore_n 2, 1) := by decide +kernel
theorem d_Pa_jump_5 : decode c_Pa_jump 5 = .ok (.aload_n 0, 1) := by decide +kernel
theorem d_Pa_jump_6 : decode c_Pa_jump 6 = .ok (.getfield 22, 3) := by decide +kernel
theorem d_Pa_jump_9 : decode c_Pa_jump 9 = .ok (.iload_n 1, 1) := by decide +kernel
theorem d_Pa_jump_10 : decode c_Pa_jump 10 = .ok (.iconst 0, 1) := by decide +kernel
theorem d_Pa_jump_11 : decode c_Pa_jump 11 = .ok (.iload_n 2, 1) := by decide +kernel
theorem d_Pa_jump_12 : decode c_Pa_jump 12 = .ok (.invokevirtual 54, 3) := by decide +kernel
theorem d_Pa_jump_15 : decode c_Pa_jump 15 = .ok (.istore_n 3, 1) := by decide +kernel
theorem d_Pa_jump_16 : decode c_Pa_jump 16 = .ok (.aload_n 0, 1) := by decide +kernel
theorem d_Pa_jump_17 : decode c_Pa_jump 17 = .ok (.dup, 1) := by decide +kernel
theorem d_Pa_jump_18 : decode c_Pa_jump 18 = .ok (.getfield 26, 3) := by decide +kernel
theorem d_Pa_jump_21 : decode c_Pa_jump 21 = .ok (.iconst 1, 1) := by decide +kernel
theorem d_Pa_jump_22 : decode c_Pa_jump 22 = .ok (.iadd, 1) := by decide +kernel
theorem d_Pa_jump_23 : decode c_Pa_jump 23 = .ok (.putfield 26, 3) := by decide +kernel
theorem d_Pa_jump_26 : decode c_Pa_jump 26 = .ok (.aload_n 0, 1) := by decide +kernel
theorem d_Pa_jump_27 : decode c_Pa_jump 27 = .ok (.invokevirtual 220, 3) := by decide +kernel
theorem d_Pa_jump_30 : decode c_Pa_jump 30 = .ok (.ifCond .eq 122, 3) := by decide +kernel
theorem d_Pa_jump_33 : decode c_Pa_jump 33 = .ok (.aload_n 0, 1) := by decide +kernel
theorem d_Pa_jump_34 : decode c_Pa_jump 34 = .ok (.getfield 84, 3) := by decide +kernel
theorem d_Pa_jump_37 : decode c_Pa_jump 37 = .ok (.aload_n 0, 1) := by decide +kernel
theorem d_Pa_jump_38 : decode c_Pa_jump 38 = .ok (.getfield 26, 3) := by decide +kernel
theorem d_Pa_jump_41 : decode c_Pa_jump 41 = .ok (.invokevirtual 270, 3) := by decide +kernel
theorem d_Pa_jump_44 : decode c_Pa_jump 44 = .ok (.ifCond .ne 108, 3) := by decide +kernel
theorem d_Pa_jump_47 : decode c_Pa_jump 47 = .ok (.aload_n 0, 1) := by decide +kernel
theorem d_Pa_jump_48 : decode c_Pa_jump 48 = .ok (.getfield 12, 3) := by decide +kernel
theorem d_Pa_jump_51 : decode c_Pa_jump 51 = .ok (.aload_n 0, 1) := by decide +kernel
theorem d_Pa_jump_52 : decode c_Pa_jump 52 = .ok (.getfield 37, 3) := by decide +kernel
theorem d_Pa_jump_55 : decode c_Pa_jump 55 = .ok (.getfield 236, 3) := by decide +kernel
theorem d_Pa_jump_58 : decode c_Pa_jump 58 = .ok (.aload_n 0, 1) := by decide +kernel
theorem d_Pa_jump_59 : decode c_Pa_jump 59 = .ok (.getfield 84, 3) := by decide +kernel
theorem d_Pa_jump_62 : decode c_Pa_jump 62 = .ok (.aload_n 0, 1) := by decide +kernel
theorem d_Pa_jump_63 : decode c_Pa_jump 63 = .ok (.getfield 26, 3) := by decide +kernel
theorem d_Pa_jump_66 : decode c_Pa_jump 66 = .ok (.invokevirtual 159, 3) := by decide +kernel
theorem d_Pa_jump_69 : decode c_Pa_jump 69 = .ok (.invokevirtual 239, 3) := by decide +kernel
theorem d_Pa_jump_72 : decode c_Pa_jump 72 = .ok (.istore 4, 2) := by decide +kernel
theorem d_Pa_jump_74 : decode c_Pa_jump 74 = .ok (.iload_n 1, 1) := by decide +kernel
theorem d_Pa_jump_75 : decode c_Pa_jump 75 = .ok (.bipush 12, 2) := by decide +kernel
theorem d_Pa_jump_77 : decode c_Pa_jump 77 = .ok (.if_icmp .eq 15, 3) := by decide +kernel
theorem d_Pa_jump_80 : decode c_Pa_jump 80 = .ok (.aload_n 0, 1) := by decide +kernel
theorem d_Pa_jump_81 : decode c_Pa_jump 81 = .ok (.getfield 12, 3) := by decide +kernel
theorem d_Pa_jump_84 : decode c_Pa_jump 84 = .ok (.iload 4, 2) := by decide +kernel
theorem d_Pa_jump_86 : decode c_Pa_jump 86 = .ok (.invokevirtual 273, 3) := by decide +kernel
theorem d_Pa_jump_89 : decode c_Pa_jump 89 = .ok (.ifCond .eq 7, 3) := by decide +kernel
theorem d_Pa_jump_92 : decode c_Pa_jump 92 = .ok (.iconst 1, 1) := by decide +kernel
theorem d_Pa_jump_93 : decode c_Pa_jump 93 = .ok (.goto 4, 3) := by decide +kernel
theorem d_Pa_jump_96 : decode c_Pa_jump 96 = .ok (.iconst 0, 1) := by decide +kernel
theorem d_Pa_jump_97 : decode c_Pa_jump 97 = .ok (.istore 5, 2) := by decide +kernel
theorem d_Pa_jump_99 : decode c_Pa_jump 99 = .ok (.iload 4, 2) := by decide +kernel
theorem d_Pa_jump_101 : decode c_Pa_jump 101 = .ok (.iconst (-1), 1) := by decide +kernel
theorem d_Pa_jump_102 : decode c_Pa_jump 102 = .ok (.if_icmp .eq 8, 3) := by decide +kernel
theorem d_Pa_jump_105 : decode c_Pa_jump 105 = .ok (.iload 5, 2) := by decide +kernel
theorem d_Pa_jump_107 : decode c_Pa_jump 107 = .ok (.ifCond .ne 11, 3) := by decide +kernel
theorem d_Pa_jump_110 : decode c_Pa_jump 110 = .ok (.aload_n 0, 1) := by decide +kernel
theorem d_Pa_jump_111 : decode c_Pa_jump 111 = .ok (.aload_n 0, 1) := by decide +kernel
theorem d_Pa_jump_112 : decode c_Pa_jump 112 = .ok (.getfield 26, 3) := by decide +kernel
theorem d_Pa_jump_115 : decode c_Pa_jump 115 = .ok (.invokevirtual 140, 3) := by decide +kernel
theorem d_Pa_jump_118 : decode c_Pa_jump 118 = .ok (.aload_n 0, 1) := by decide +kernel
theorem d_Pa_jump_119 : decode c_Pa_jump 119 = .ok (.getfield 22, 3) := by decide +kernel
theorem d_Pa_jump_122 : decode c_Pa_jump 122 = .ok (.iload_n 3, 1) := by decide +kernel
theorem d_Pa_jump_123 : decode c_Pa_jump 123 = .ok (.aload_n 0, 1) := by decide +kernel
theorem d_Pa_jump_124 : decode c_Pa_jump 124 = .ok (.getfield 84, 3) := by decide +kernel
theorem d_Pa_jump_127 : decode c_Pa_jump 127 = .ok (.aload_n 0, 1) := by decide +kernel
theorem d_Pa_jump_128 : decode c_Pa_jump 128 = .ok (.getfield 26, 3) := by decide +kernel
theorem d_Pa_jump_131 : decode c_Pa_jump 131 = .ok (.invokevirtual 159, 3) := by decide +kernel
theorem d_Pa_jump_134 : decode c_Pa_jump 134 = .ok (.iconst 1, 1) := by decide +kernel
theorem d_Pa_jump_135 : decode c_Pa_jump 135 = .ok (.iadd, 1) := by decide +kernel
theorem d_Pa_jump_136 : decode c_Pa_jump 136 = .ok (.invokevirtual 95, 3) := by decide +kernel
theorem d_Pa_jump_139 : decode c_Pa_jump 139 = .ok (.aload_n 0, 1) := by decide +kernel
theorem d_Pa_jump_140 : decode c_Pa_jump 140 = .ok (.dup, 1) := by decide +kernel
theorem d_Pa_jump_141 : decode c_Pa_jump 141 = .ok (.getfield 26, 3) := by decide +kernel
theorem d_Pa_jump_144 : decode c_Pa_jump 144 = .ok (.iconst 1, 1) := by decide +kernel
theorem d_Pa_jump_145 : decode c_Pa_jump 145 = .ok (.iadd, 1) := by decide +kernel
theorem d_Pa_jump_146 : decode c_Pa_jump 146 = .ok (.putfield 26, 3) := by decide +kernel
theorem d_Pa_jump_149 : decode c_Pa_jump 149 = .ok (.goto 34, 3) := by decide +kernel
theorem d_Pa_jump_152 : decode c_Pa_jump 152 = .ok (.aload_n 0, 1) := by decide +kernel
theorem d_Pa_jump_153 : decode c_Pa_jump 153 = .ok (.getfield 37, 3) := by decide +kernel
theorem d_Pa_jump_156 : decode c_Pa_jump 156 = .ok (.getfield 252, 3) := by decide +kernel
theorem d_Pa_jump_159 : decode c_Pa_jump 159 = .ok (.ifCond .ne 24, 3) := by decide +kernel
theorem d_Pa_jump_162 : decode c_Pa_jump 162 = .ok (.iload_n 1, 1) := by decide +kernel
theorem d_Pa_jump_163 : decode c_Pa_jump 163 = .ok (.bipush 11, 2) := by decide +kernel
theorem d_Pa_jump_165 : decode c_Pa_jump 165 = .ok (.if_icmp .eq 13, 3) := by decide +kernel
theorem d_Pa_jump_168 : decode c_Pa_jump 168 = .ok (.aload_n 0, 1) := by decide +kernel
theorem d_Pa_jump_169 : decode c_Pa_jump 169 = .ok (.getfield 37, 3) := by decide +kernel
theorem d_Pa_jump_172 : decode c_Pa_jump 172 = .ok (.getfield 276, 3) := by decide +kernel
theorem d_Pa_jump_175 : decode c_Pa_jump 175 = .ok (.ifCond .ne 8, 3) := by decide +kernel
theorem d_Pa_jump_178 : decode c_Pa_jump 178 = .ok (.aload_n 0, 1) := by decide +kernel
theorem d_Pa_jump_179 : decode c_Pa_jump 179 = .ok (.iload_n 2, 1) := by decide +kernel
theorem d_Pa_jump_180 : decode c_Pa_jump 180 = .ok (.invokevirtual 140, 3) := by decide +kernel
theorem d_Pa_jump_183 : decode c_Pa_jump 183 = .ok (.aload_n 0, 1) := by decide +kernel
theorem d_Pa_jump_184 : decode c_Pa_jump 184 = .ok (.invokevirtual 172, 3) := by decide +kernel
theorem d_Pa_jump_187 : decode c_Pa_jump 187 = .ok (.return_, 1) := by decide +kernel
