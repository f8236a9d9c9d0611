theorem d_Pa_commas_0 : decode c_Pa_commas 0 = .ok (.aload_n 0, 1) := by decide +kernel
theorem d_Pa_commas_1 : decode c_Pa_commas 1 = .ok (.getfield 26, 3) := by decide +kernel
theorem d_Pa_commas_4 : decode c_Pa_commas 4 = .ok (.istore 4, 2) := by decide +kernel
theorem d_Pa_commas_6 : decode c_Pa_commas 6 = .ok (.iconst 0, 1) := by decide +kernel
theorem d_Pa_commas_7 : decode c_Pa_commas 7 = .ok (.istore 5, 2) := by decide +kernel
theorem d_Pa_commas_9 : decode c_Pa_commas 9 = .ok (.iload 5, 2) := by decide +kernel
theorem d_Pa_commas_11 : decode c_Pa_commas 11 = .ok (.sipush 1000, 3) := by decide +kernel
theorem d_Pa_commas_14 : decode c_Pa_commas 14 = .ok (.if_icmp .gt 46, 3) := by decide +kernel
theorem d_Pa_commas_17 : decode c_Pa_commas 17 = .ok (.aload_n 0, 1) := by decide +kernel
theorem d_Pa_commas_18 : decode c_Pa_commas 18 = .ok (.bipush 68, 2) := by decide +kernel
theorem d_Pa_commas_20 : decode c_Pa_commas 20 = .ok (.invokevirtual 117, 3) := by decide +kernel
theorem d_Pa_commas_23 : decode c_Pa_commas 23 = .ok (.ifCond .eq 37, 3) := by decide +kernel
theorem d_Pa_commas_26 : decode c_Pa_commas 26 = .ok (.aload_n 0, 1) := by decide +kernel
theorem d_Pa_commas_27 : decode c_Pa_commas 27 = .ok (.iconst 0, 1) := by decide +kernel
theorem d_Pa_commas_28 : decode c_Pa_commas 28 = .ok (.iload_n 2, 1) := by decide +kernel
theorem d_Pa_commas_29 : decode c_Pa_commas 29 = .ok (.iconst 1, 1) := by decide +kernel
theorem d_Pa_commas_30 : decode c_Pa_commas 30 = .ok (.iadd, 1) := by decide +kernel
theorem d_Pa_commas_31 : decode c_Pa_commas 31 = .ok (.iload_n 3, 1) := by decide +kernel
theorem d_Pa_commas_32 : decode c_Pa_commas 32 = .ok (.invokevirtual 232, 3) := by decide +kernel
theorem d_Pa_commas_35 : decode c_Pa_commas 35 = .ok (.aload_n 0, 1) := by decide +kernel
theorem d_Pa_commas_36 : decode c_Pa_commas 36 = .ok (.getfield 22, 3) := by decide +kernel
theorem d_Pa_commas_39 : decode c_Pa_commas 39 = .ok (.iload_n 1, 1) := by decide +kernel
theorem d_Pa_commas_40 : decode c_Pa_commas 40 = .ok (.bipush 45, 2) := by decide +kernel
theorem d_Pa_commas_42 : decode c_Pa_commas 42 = .ok (.iconst 0, 1) := by decide +kernel
theorem d_Pa_commas_43 : decode c_Pa_commas 43 = .ok (.iload 4, 2) := by decide +kernel
theorem d_Pa_commas_45 : decode c_Pa_commas 45 = .ok (.invokevirtual 365, 3) := by decide +kernel
theorem d_Pa_commas_48 : decode c_Pa_commas 48 = .ok (.aload_n 0, 1) := by decide +kernel
theorem d_Pa_commas_49 : decode c_Pa_commas 49 = .ok (.getfield 26, 3) := by decide +kernel
theorem d_Pa_commas_52 : decode c_Pa_commas 52 = .ok (.istore 4, 2) := by decide +kernel
theorem d_Pa_commas_54 : decode c_Pa_commas 54 = .ok (.iinc 5 1, 3) := by decide +kernel
theorem d_Pa_commas_57 : decode c_Pa_commas 57 = .ok (.goto (-48), 3) := by decide +kernel
theorem d_Pa_commas_60 : decode c_Pa_commas 60 = .ok (.return_, 1) := by decide +kernel
theorem d_Pa_assignable_0 : decode c_Pa_assignable 0 = .ok (.aload_n 0, 1) := by decide +kernel
theorem d_Pa_assignable_1 : decode c_Pa_assignable 1 = .ok (.getfield 22, 3) := by decide +kernel
theorem d_Pa_assignable_4 : decode c_Pa_assignable 4 = .ok (.iload_n 1, 1) := by decide +kernel
theorem d_Pa_assignable_5 : decode c_Pa_assignable 5 = .ok (.invokevirtual 143, 3) := by decide +kernel
theorem d_Pa_assignable_8 : decode c_Pa_assignable 8 = .ok (.istore_n 2, 1) := by decide +kernel
theorem d_Pa_assignable_9 : decode c_Pa_assignable 9 = .ok (.iload_n 2, 1) := by decide +kernel
theorem d_Pa_assignable_10 : decode c_Pa_assignable 10 = .ok (.bipush 28, 2) := by decide +kernel
theorem d_Pa_assignable_12 : decode c_Pa_assignable 12 = .ok (.if_icmp .ne 33, 3) := by decide +kernel
theorem d_Pa_assignable_15 : decode c_Pa_assignable 15 = .ok (.aload_n 0, 1) := by decide +kernel
theorem d_Pa_assignable_16 : decode c_Pa_assignable 16 = .ok (.getfield 37, 3) := by decide +kernel
theorem d_Pa_assignable_19 : decode c_Pa_assignable 19 = .ok (.getfield 91, 3) := by decide +kernel
theorem d_Pa_assignable_22 : decode c_Pa_assignable 22 = .ok (.ifCond .eq 17, 3) := by decide +kernel
theorem d_Pa_assignable_25 : decode c_Pa_assignable 25 = .ok (.aload_n 0, 1) := by decide +kernel
theorem d_Pa_assignable_26 : decode c_Pa_assignable 26 = .ok (.getfield 22, 3) := by decide +kernel
theorem d_Pa_assignable_29 : decode c_Pa_assignable 29 = .ok (.iload_n 1, 1) := by decide +kernel
theorem d_Pa_assignable_30 : decode c_Pa_assignable 30 = .ok (.invokevirtual 146, 3) := by decide +kernel
theorem d_Pa_assignable_33 : decode c_Pa_assignable 33 = .ok (.invokestatic 162, 3) := by decide +kernel
theorem d_Pa_assignable_36 : decode c_Pa_assignable 36 = .ok (.ifCond .ne 7, 3) := by decide +kernel
theorem d_Pa_assignable_39 : decode c_Pa_assignable 39 = .ok (.iconst 1, 1) := by decide +kernel
theorem d_Pa_assignable_40 : decode c_Pa_assignable 40 = .ok (.goto 4, 3) := by decide +kernel
theorem d_Pa_assignable_43 : decode c_Pa_assignable 43 = .ok (.iconst 0, 1) := by decide +kernel
theorem d_Pa_assignable_44 : decode c_Pa_assignable 44 = .ok (.ireturn, 1) := by decide +kernel
theorem d_Pa_assignable_45 : decode c_Pa_assignable 45 = .ok (.iload_n 2, 1) := by decide +kernel
theorem d_Pa_assignable_46 : decode c_Pa_assignable 46 = .ok (.bipush 36, 2) := by decide +kernel
theorem d_Pa_assignable_48 : decode c_Pa_assignable 48 = .ok (.if_icmp .eq 9, 3) := by decide +kernel
theorem d_Pa_assignable_51 : decode c_Pa_assignable 51 = .ok (.iload_n 2, 1) := by decide +kernel
theorem d_Pa_assignable_52 : decode c_Pa_assignable 52 = .ok (.bipush 37, 2) := by decide +kernel
theorem d_Pa_assignable_54 : decode c_Pa_assignable 54 = .ok (.if_icmp .ne 7, 3) := by decide +kernel
theorem d_Pa_assignable_57 : decode c_Pa_assignable 57 = .ok (.iconst 1, 1) := by decide +kernel
theorem d_Pa_assignable_58 : decode c_Pa_assignable 58 = .ok (.goto 4, 3) := by decide +kernel
theorem d_Pa_assignable_61 : decode c_Pa_assignable 61 = .ok (.iconst 0, 1) := by decide +kernel
theorem d_Pa_assignable_62 : decode c_Pa_assignable 62 = .ok (.ireturn, 1) := by decide +kernel
theorem d_Tk_init_0 : decode c_Tk_init 0 = .ok (.aload_n 0, 1) := by decide +kernel
theorem d_Tk_init_1 : decode c_Tk_init 1 = .ok (.invokespecial 1, 3) := by decide +kernel
theorem d_Tk_init_4 : decode c_Tk_init 4 = .ok (.aload_n 0, 1) := by decide +kernel
theorem d_Tk_init_5 : decode c_Tk_init 5 = .ok (.bipush 64, 2) := by decide +kernel
theorem d_Tk_init_7 : decode c_Tk_init 7 = .ok (.newarray .int, 2) := by decide +kernel
theorem d_Tk_init_9 : decode c_Tk_init 9 = .ok (.putfield 9, 3) := by decide +kernel
theorem d_Tk_init_12 : decode c_Tk_init 12 = .ok (.aload_n 0, 1) := by decide +kernel
theorem d_Tk_init_13 : decode c_Tk_init 13 = .ok (.bipush 64, 2) := by decide +kernel
theorem d_Tk_init_15 : decode c_Tk_init 15 = .ok (.newarray .int, 2) := by decide +kernel
theorem d_Tk_init_17 : decode c_Tk_init 17 = .ok (.putfield 13, 3) := by decide +kernel
theorem d_Tk_init_20 : decode c_Tk_init 20 = .ok (.aload_n 0, 1) := by decide +kernel
theorem d_Tk_init_21 : decode c_Tk_init 21 = .ok (.bipush 64, 2) := by decide +kernel
theorem d_Tk_init_23 : decode c_Tk_init 23 = .ok (.newarray .int, 2) := by decide +kernel
theorem d_Tk_init_25 : decode c_Tk_init 25 = .ok (.putfield 16, 3) := by decide +kernel
theorem d_Tk_init_28 : decode c_Tk_init 28 = .ok (.aload_n 0, 1) := by decide +kernel
theorem d_Tk_init_29 : decode c_Tk_init 29 = .ok (.bipush 64, 2) := by decide +kernel
theorem d_Tk_init_31 : decode c_Tk_init 31 = .ok (.newarray .int, 2) := by decide +kernel
theorem d_Tk_init_33 : decode c_Tk_init 33 = .ok (.putfield 19, 3) := by decide +kernel
theorem d_Tk_init_36 : decode c_Tk_init 36 = .ok (.aload_n 0, 1) := by decide +kernel
theorem d_Tk_init_37 : decode c_Tk_init 37 = .ok (.iconst 0, 1) := by decide +kernel
theorem d_Tk_init_38 : decode c_Tk_init 38 = .ok (.putfield 22, 3) := by decide +kernel
theorem d_Tk_init_41 : decode c_Tk_init 41 = .ok (.return_, 1) := by decide +kernel
theorem d_Tk_known_0 : decode c_Tk_known 0 = .ok (.iload_n 0, 1) := by decide +kernel
theorem d_Tk_known_1 : decode c_Tk_known 1 = .ok (.tableswitch 83 1 4 #[31, 51, 56, 78], 31) := by decide +kernel
theorem d_Tk_known_32 : decode c_Tk_known 32 = .ok (.iload_n 1, 1) := by decide +kernel
theorem d_Tk_known_33 : decode c_Tk_known 33 = .ok (.invokestatic 26, 3) := by decide +kernel
theorem d_Tk_known_36 : decode c_Tk_known 36 = .ok (.ifCond .eq 14, 3) := by decide +kernel
theorem d_Tk_known_39 : decode c_Tk_known 39 = .ok (.iload_n 2, 1) := by decide +kernel
theorem d_Tk_known_40 : decode c_Tk_known 40 = .ok (.invokestatic 30, 3) := by decide +kernel
theorem d_Tk_known_43 : decode c_Tk_known 43 = .ok (.ifCond .eq 7, 3) := by decide +kernel
theorem d_Tk_known_46 : decode c_Tk_known 46 = .ok (.iconst 1, 1) := by decide +kernel
theorem d_Tk_known_47 : decode c_Tk_known 47 = .ok (.goto 4, 3) := by decide +kernel
theorem d_Tk_known_50 : decode c_Tk_known 50 = .ok (.iconst 0, 1) := by decide +kernel
theorem d_Tk_known_51 : decode c_Tk_known 51 = .ok (.ireturn, 1) := by decide +kernel
theorem d_Tk_known_52 : decode c_Tk_known 52 = .ok (.iload_n 2, 1) := by decide +kernel
theorem d_Tk_known_53 : decode c_Tk_known 53 = .ok (.invokestatic 30, 3) := by decide +kernel
theorem d_Tk_known_56 : decode c_Tk_known 56 = .ok (.ireturn, 1) := by decide +kernel
theorem d_Tk_known_57 : decode c_Tk_known 57 = .ok (.iload_n 1, 1) := by decide +kernel
theorem d_Tk_known_58 : decode c_Tk_known 58 = .ok (.ifCond .eq 8, 3) := by decide +kernel
theorem d_Tk_known_61 : decode c_Tk_known 61 = .ok (.iload_n 1, 1) := by decide +kernel
theorem d_Tk_known_62 : decode c_Tk_known 62 = .ok (.iconst 1, 1) := by decide +kernel
theorem d_Tk_known_63 : decode c_Tk_known 63 = .ok (.if_icmp .ne 14, 3) := by decide +kernel
theorem d_Tk_known_66 : decode c_Tk_known 66 = .ok (.iload_n 2, 1) := by decide +kernel
theorem d_Tk_known_67 : decode c_Tk_known 67 = .ok (.invokestatic 30, 3) := by decide +kernel
theorem d_Tk_known_70 : decode c_Tk_known 70 = .ok (.ifCond .eq 7, 3) := by decide +kernel
theorem d_Tk_known_73 : decode c_Tk_known 73 = .ok (.iconst 1, 1) := by decide +kernel
theorem d_Tk_known_74 : decode c_Tk_known 74 = .ok (.goto 4, 3) := by decide +kernel
theorem d_Tk_known_77 : decode c_Tk_known 77 = .ok (.iconst 0, 1) := by decide +kernel
theorem d_Tk_known_78 : decode c_Tk_known 78 = .ok (.ireturn, 1) := by decide +kernel
theorem d_Tk_known_79 : decode c_Tk_known 79 = .ok (.iload_n 1, 1) := by decide +kernel
theorem d_Tk_known_80 : decode c_Tk_known 80 = .ok (.invokestatic 33, 3) := by decide +kernel
theorem d_Tk_known_83 : decode c_Tk_known 83 = .ok (.ireturn, 1) := by decide +kernel
theorem d_Tk_known_84 : decode c_Tk_known 84 = .ok (.iload_n 0, 1) := by decide +kernel
theorem d_Tk_known_85 : decode c_Tk_known 85 = .ok (.iconst 5, 1) := by decide +kernel
theorem d_Tk_known_86 : decode c_Tk_known 86 = .ok (.if_icmp .ne 7, 3) := by decide +kernel
theorem d_Tk_known_89 : decode c_Tk_known 89 = .ok (.iconst 1, 1) := by decide +kernel
theorem d_Tk_known_90 : decode c_Tk_known 90 = .ok (.goto 4, 3) := by decide +kernel
theorem d_Tk_known_93 : decode c_Tk_known 93 = .ok (.iconst 0, 1) := by decide +kernel
theorem d_Tk_known_94 : decode c_Tk_known 94 = .ok (.ireturn, 1) := by decide +kernel
theorem d_Tk_knownName_0 : decode c_Tk_knownName 0 = .ok (.iload_n 0, 1) := by decide +kernel
theorem d_Tk_knownName_1 : decode c_Tk_knownName 1 = .ok (.ifCond .lt 14, 3) := by decide +kernel
theorem d_Tk_knownName_4 : decode c_Tk_knownName 4 = .ok (.iload_n 0, 1) := by decide +kernel
theorem d_Tk_knownName_5 : decode c_Tk_knownName 5 = .ok (.sipush 999, 3) := by decide +kernel
theorem d_Tk_knownName_8 : decode c_Tk_knownName 8 = .ok (.if_icmp .gt 7, 3) := by decide +kernel
theorem d_Tk_knownName_11 : decode c_Tk_knownName 11 = .ok (.iconst 1, 1) := by decide +kernel
theorem d_Tk_knownName_12 : decode c_Tk_knownName 12 = .ok (.goto 4, 3) := by decide +kernel
theorem d_Tk_knownName_15 : decode c_Tk_knownName 15 = .ok (.iconst 0, 1) := by decide +kernel
theorem d_Tk_knownName_16 : decode c_Tk_knownName 16 = .ok (.ireturn, 1) := by decide +kernel
theorem d_Tk_knownWord_0 : decode c_Tk_knownWord 0 = .ok (.iload_n 0, 1) := by decide +kernel
theorem d_Tk_knownWord_1 : decode c_Tk_knownWord 1 = .ok (.iconst (-1), 1) := by decide +kernel
theorem d_Tk_knownWord_2 : decode c_Tk_knownWord 2 = .ok (.if_icmp .lt 9, 3) := by decide +kernel
theorem d_Tk_knownWord_5 : decode c_Tk_knownWord 5 = .ok (.iload_n 0, 1) := by decide +kernel
theorem d_Tk_knownWord_6 : decode c_Tk_knownWord 6 = .ok (.bipush 44, 2) := by decide +kernel
theorem d_Tk_knownWord_8 : decode c_Tk_knownWord 8 = .ok (.if_icmp .le 16, 3) := by decide +kernel
theorem d_Tk_knownWord_11 : decode c_Tk_knownWord 11 = .ok (.iload_n 0, 1) := by decide +kernel
theorem d_Tk_knownWord_12 : decode c_Tk_knownWord 12 = .ok (.bipush 100, 2) := by decide +kernel
theorem d_Tk_knownWord_14 : decode c_Tk_knownWord 14 = .ok (.if_icmp .lt 14, 3) := by decide +kernel
theorem d_Tk_knownWord_17 : decode c_Tk_knownWord 17 = .ok (.iload_n 0, 1) := by decide +kernel
theorem d_Tk_knownWord_18 : decode c_Tk_knownWord 18 = .ok (.sipush 144, 3) := by decide +kernel
theorem d_Tk_knownWord_21 : decode c_Tk_knownWord 21 = .ok (.if_icmp .gt 7, 3) := by decide +kernel
theorem d_Tk_knownWord_24 : decode c_Tk_knownWord 24 = .ok (.iconst 1, 1) := by decide +kernel
theorem d_Tk_knownWord_25 : decode c_Tk_knownWord 25 = .ok (.goto 4, 3) := by decide +kernel
theorem d_Tk_knownWord_28 : decode c_Tk_knownWord 28 = .ok (.iconst 0, 1) := by decide +kernel
theorem d_Tk_knownWord_29 : decode c_Tk_knownWord 29 = .ok (.ireturn, 1) := by decide +kernel
theorem d_Tk_knownSign_0 : decode c_Tk_knownSign 0 = .ok (.iload_n 0, 1) := by decide +kernel
theorem d_Tk_knownSign_1 : decode c_Tk_knownSign 1 = .ok (.iconst 1, 1) := by decide +kernel
theorem d_Tk_knownSign_2 : decode c_Tk_knownSign 2 = .ok (.if_icmp .lt 9, 3) := by decide +kernel
theorem d_Tk_knownSign_5 : decode c_Tk_knownSign 5 = .ok (.iload_n 0, 1) := by decide +kernel
theorem d_Tk_knownSign_6 : decode c_Tk_knownSign 6 = .ok (.bipush 13, 2) := by decide +kernel
theorem d_Tk_knownSign_8 : decode c_Tk_knownSign 8 = .ok (.if_icmp .le 57, 3) := by decide +kernel
theorem d_Tk_knownSign_11 : decode c_Tk_knownSign 11 = .ok (.iload_n 0, 1) := by decide +kernel
theorem d_Tk_knownSign_12 : decode c_Tk_knownSign 12 = .ok (.bipush 16, 2) := by decide +kernel
theorem d_Tk_knownSign_14 : decode c_Tk_knownSign 14 = .ok (.if_icmp .lt 9, 3) := by decide +kernel
theorem d_Tk_knownSign_17 : decode c_Tk_knownSign 17 = .ok (.iload_n 0, 1) := by decide +kernel
theorem d_Tk_knownSign_18 : decode c_Tk_knownSign 18 = .ok (.bipush 23, 2) := by decide +kernel
theorem d_Tk_knownSign_20 : decode c_Tk_knownSign 20 = .ok (.if_icmp .le 45, 3) := by decide +kernel
theorem d_Tk_knownSign_23 : decode c_Tk_knownSign 23 = .ok (.iload_n 0, 1) := by decide +kernel
theorem d_Tk_knownSign_24 : decode c_Tk_knownSign 24 = .ok (.bipush 30, 2) := by decide +kernel
theorem d_Tk_knownSign_26 : decode c_Tk_knownSign 26 = .ok (.if_icmp .eq 39, 3) := by decide +kernel
theorem d_Tk_knownSign_29 : decode c_Tk_knownSign 29 = .ok (.iload_n 0, 1) := by decide +kernel
theorem d_Tk_knownSign_30 : decode c_Tk_knownSign 30 = .ok (.bipush 33, 2) := by decide +kernel
theorem d_Tk_knownSign_32 : decode c_Tk_knownSign 32 = .ok (.if_icmp .lt 9, 3) := by decide +kernel
theorem d_Tk_knownSign_35 : decode c_Tk_knownSign 35 = .ok (.iload_n 0, 1) := by decide +kernel
theorem d_Tk_knownSign_36 : decode c_Tk_knownSign 36 = .ok (.bipush 35, 2) := by decide +kernel
theorem d_Tk_knownSign_38 : decode c_Tk_knownSign 38 = .ok (.if_icmp .le 27, 3) := by decide +kernel
theorem d_Tk_knownSign_41 : decode c_Tk_knownSign 41 = .ok (.iload_n 0, 1) := by decide +kernel
theorem d_Tk_knownSign_42 : decode c_Tk_knownSign 42 = .ok (.bipush 46, 2) := by decide +kernel
theorem d_Tk_knownSign_44 : decode c_Tk_knownSign 44 = .ok (.if_icmp .lt 9, 3) := by decide +kernel
theorem d_Tk_knownSign_47 : decode c_Tk_knownSign 47 = .ok (.iload_n 0, 1) := by decide +kernel
theorem d_Tk_knownSign_48 : decode c_Tk_knownSign 48 = .ok (.bipush 53, 2) := by decide +kernel
theorem d_Tk_knownSign_50 : decode c_Tk_knownSign 50 = .ok (.if_icmp .le 15, 3) := by decide +kernel
theorem d_Tk_knownSign_53 : decode c_Tk_knownSign 53 = .ok (.iload_n 0, 1) := by decide +kernel
theorem d_Tk_knownSign_54 : decode c_Tk_knownSign 54 = .ok (.bipush 60, 2) := by decide +kernel
theorem d_Tk_knownSign_56 : decode c_Tk_knownSign 56 = .ok (.if_icmp .lt 13, 3) := by decide +kernel
theorem d_Tk_knownSign_59 : decode c_Tk_knownSign 59 = .ok (.iload_n 0, 1) := by decide +kernel
theorem d_Tk_knownSign_60 : decode c_Tk_knownSign 60 = .ok (.bipush 74, 2) := by decide +kernel
theorem d_Tk_knownSign_62 : decode c_Tk_knownSign 62 = .ok (.if_icmp .gt 7, 3) := by decide +kernel
theorem d_Tk_knownSign_65 : decode c_Tk_knownSign 65 = .ok (.iconst 1, 1) := by decide +kernel
theorem d_Tk_knownSign_66 : decode c_Tk_knownSign 66 = .ok (.goto 4, 3) := by decide +kernel
theorem d_Tk_knownSign_69 : decode c_Tk_knownSign 69 = .ok (.iconst 0, 1) := by decide +kernel
theorem d_Tk_knownSign_70 : decode c_Tk_knownSign 70 = .ok (.ireturn, 1) := by decide +kernel
theorem d_Tk_count_0 : decode c_Tk_count 0 = .ok (.aload_n 0, 1) := by decide +kernel
theorem d_Tk_count_1 : decode c_Tk_count 1 = .ok (.getfield 22, 3) := by decide +kernel
theorem d_Tk_count_4 : decode c_Tk_count 4 = .ok (.ireturn, 1) := by decide +kernel
theorem d_Tk_clear_0 : decode c_Tk_clear 0 = .ok (.aload_n 0, 1) := by decide +kernel
theorem d_Tk_clear_1 : decode c_Tk_clear 1 = .ok (.iconst 0, 1) := by decide +kernel
theorem d_Tk_clear_2 : decode c_Tk_clear 2 = .ok (.putfield 22, 3) := by decide +kernel
theorem d_Tk_clear_5 : decode c_Tk_clear 5 = .ok (.return_, 1) := by decide +kernel
theorem d_Tk_add_0 : decode c_Tk_add 0 = .ok (.aload_n 0, 1) := by decide +kernel
theorem d_Tk_add_1 : decode c_Tk_add 1 = .ok (.getfield 22, 3) := by decide +kernel
theorem d_Tk_add_4 : decode c_Tk_add 4 = .ok (.sipush 1000, 3) := by decide +kernel
theorem d_Tk_add_7 : decode c_Tk_add 7 = .ok (.if_icmp .lt 4, 3) := by decide +kernel
theorem d_Tk_add_10 : decode c_Tk_add 10 = .ok (.return_, 1) := by decide +kernel
theorem d_Tk_add_11 : decode c_Tk_add 11 = .ok (.aload_n 0, 1) := by decide +kernel
theorem d_Tk_add_12 : decode c_Tk_add 12 = .ok (.getfield 22, 3) := by decide +kernel
theorem d_Tk_add_15 : decode c_Tk_add 15 = .ok (.aload_n 0, 1) := by decide +kernel
theorem d_Tk_add_16 : decode c_Tk_add 16 = .ok (.getfield 9, 3) := by decide +kernel
theorem d_Tk_add_19 : decode c_Tk_add 19 = .ok (.arraylength, 1) := by decide +kernel
theorem d_Tk_add_20 : decode c_Tk_add 20 = .ok (.if_icmp .ne 19, 3) := by decide +kernel
theorem d_Tk_add_23 : decode c_Tk_add 23 = .ok (.aload_n 0, 1) := by decide +kernel
theorem d_Tk_add_24 : decode c_Tk_add 24 = .ok (.sipush 1000, 3) := by decide +kernel
theorem d_Tk_add_27 : decode c_Tk_add 27 = .ok (.iconst 2, 1) := by decide +kernel
theorem d_Tk_add_28 : decode c_Tk_add 28 = .ok (.aload_n 0, 1) := by decide +kernel
theorem d_Tk_add_29 : decode c_Tk_add 29 = .ok (.getfield 22, 3) := by decide +kernel
theorem d_Tk_add_32 : decode c_Tk_add 32 = .ok (.imul, 1) := by decide +kernel
theorem d_Tk_add_33 : decode c_Tk_add 33 = .ok (.invokestatic 40, 3) := by decide +kernel
theorem d_Tk_add_36 : decode c_Tk_add 36 = .ok (.invokevirtual 46, 3) := by decide +kernel
theorem d_Tk_add_39 : decode c_Tk_add 39 = .ok (.aload_n 0, 1) := by decide +kernel
theorem d_Tk_add_40 : decode c_Tk_add 40 = .ok (.getfield 9, 3) := by decide +kernel
theorem d_Tk_add_43 : decode c_Tk_add 43 = .ok (.aload_n 0, 1) := by decide +kernel
theorem d_Tk_add_44 : decode c_Tk_add 44 = .ok (.getfield 22, 3) := by decide +kernel
theorem d_Tk_add_47 : decode c_Tk_add 47 = .ok (.iload_n 1, 1) := by decide +kernel
theorem d_Tk_add_48 : decode c_Tk_add 48 = .ok (.iastore, 1) := by decide +kernel
theorem d_Tk_add_49 : decode c_Tk_add 49 = .ok (.aload_n 0, 1) := by decide +kernel
theorem d_Tk_add_50 : decode c_Tk_add 50 = .ok (.getfield 13, 3) := by decide +kernel
theorem d_Tk_add_53 : decode c_Tk_add 53 = .ok (.aload_n 0, 1) := by decide +kernel
theorem d_Tk_add_54 : decode c_Tk_add 54 = .ok (.getfield 22, 3) := by decide +kernel
theorem d_Tk_add_57 : decode c_Tk_add 57 = .ok (.iload_n 2, 1) := by decide +kernel
theorem d_Tk_add_58 : decode c_Tk_add 58 = .ok (.iastore, 1) := by decide +kernel
theorem d_Tk_add_59 : decode c_Tk_add 59 = .ok (.aload_n 0, 1) := by decide +kernel
theorem d_Tk_add_60 : decode c_Tk_add 60 = .ok (.getfield 16, 3) := by decide +kernel
theorem d_Tk_add_63 : decode c_Tk_add 63 = .ok (.aload_n 0, 1) := by decide +kernel
theorem d_Tk_add_64 : decode c_Tk_add 64 = .ok (.getfield 22, 3) := by decide +kernel
theorem d_Tk_add_67 : decode c_Tk_add 67 = .ok (.iload_n 3, 1) := by decide +kernel
theorem d_Tk_add_68 : decode c_Tk_add 68 = .ok (.iastore, 1) := by decide +kernel
theorem d_Tk_add_69 : decode c_Tk_add 69 = .ok (.aload_n 0, 1) := by decide +kernel
theorem d_Tk_add_70 : decode c_Tk_add 70 = .ok (.getfield 19, 3) := by decide +kernel
theorem d_Tk_add_73 : decode c_Tk_add 73 = .ok (.aload_n 0, 1) := by decide +kernel
theorem d_Tk_add_74 : decode c_Tk_add 74 = .ok (.getfield 22, 3) := by decide +kernel
theorem d_Tk_add_77 : decode c_Tk_add 77 = .ok (.iload 4, 2) := by decide +kernel
theorem d_Tk_add_79 : decode c_Tk_add 79 = .ok (.ifCond .eq 7, 3) := by decide +kernel
theorem d_Tk_add_82 : decode c_Tk_add 82 = .ok (.iconst 1, 1) := by decide +kernel
theorem d_Tk_add_83 : decode c_Tk_add 83 = .ok (.goto 4, 3) := by decide +kernel
theorem d_Tk_add_86 : decode c_Tk_add 86 = .ok (.iconst 0, 1) := by decide +kernel
theorem d_Tk_add_87 : decode c_Tk_add 87 = .ok (.iastore, 1) := by decide +kernel
theorem d_Tk_add_88 : decode c_Tk_add 88 = .ok (.aload_n 0, 1) := by decide +kernel
theorem d_Tk_add_89 : decode c_Tk_add 89 = .ok (.dup, 1) := by decide +kernel
theorem d_Tk_add_90 : decode c_Tk_add 90 = .ok (.getfield 22, 3) := by decide +kernel
theorem d_Tk_add_93 : decode c_Tk_add 93 = .ok (.iconst 1, 1) := by decide +kernel
theorem d_Tk_add_94 : decode c_Tk_add 94 = .ok (.iadd, 1) := by decide +kernel
theorem d_Tk_add_95 : decode c_Tk_add 95 = .ok (.putfield 22, 3) := by decide +kernel
theorem d_Tk_add_98 : decode c_Tk_add 98 = .ok (.return_, 1) := by decide +kernel
theorem d_Tk_grow_0 : decode c_Tk_grow 0 = .ok (.aload_n 0, 1) := by decide +kernel
theorem d_Tk_grow_1 : decode c_Tk_grow 1 = .ok (.aload_n 0, 1) := by decide +kernel
theorem d_Tk_grow_2 : decode c_Tk_grow 2 = .ok (.getfield 9, 3) := by decide +kernel
theorem d_Tk_grow_5 : decode c_Tk_grow 5 = .ok (.iload_n 1, 1) := by decide +kernel
theorem d_Tk_grow_6 : decode c_Tk_grow 6 = .ok (.invokestatic 50, 3) := by decide +kernel
theorem d_Tk_grow_9 : decode c_Tk_grow 9 = .ok (.putfield 9, 3) := by decide +kernel
theorem d_Tk_grow_12 : decode c_Tk_grow 12 = .ok (.aload_n 0, 1) := by decide +kernel
theorem d_Tk_grow_13 : decode c_Tk_grow 13 = .ok (.aload_n 0, 1) := by decide +kernel
theorem d_Tk_grow_14 : decode c_Tk_grow 14 = .ok (.getfield 13, 3) := by decide +kernel
theorem d_Tk_grow_17 : decode c_Tk_grow 17 = .ok (.iload_n 1, 1) := by decide +kernel
theorem d_Tk_grow_18 : decode c_Tk_grow 18 = .ok (.invokestatic 50, 3) := by decide +kernel
theorem d_Tk_grow_21 : decode c_Tk_grow 21 = .ok (.putfield 13, 3) := by decide +kernel
theorem d_Tk_grow_24 : decode c_Tk_grow 24 = .ok (.aload_n 0, 1) := by decide +kernel
theorem d_Tk_grow_25 : decode c_Tk_grow 25 = .ok (.aload_n 0, 1) := by decide +kernel
theorem d_Tk_grow_26 : decode c_Tk_grow 26 = .ok (.getfield 16, 3) := by decide +kernel
theorem d_Tk_grow_29 : decode c_Tk_grow 29 = .ok (.iload_n 1, 1) := by decide +kernel
theorem d_Tk_grow_30 : decode c_Tk_grow 30 = .ok (.invokestatic 50, 3) := by decide +kernel
theorem d_Tk_grow_33 : decode c_Tk_grow 33 = .ok (.putfield 16, 3) := by decide +kernel
theorem d_Tk_grow_36 : decode c_Tk_grow 36 = .ok (.aload_n 0, 1) := by decide +kernel
theorem d_Tk_grow_37 : decode c_Tk_grow 37 = .ok (.aload_n 0, 1) := by decide +kernel
theorem d_Tk_grow_38 : decode c_Tk_grow 38 = .ok (.getfield 19, 3) := by decide +kernel
theorem d_Tk_grow_41 : decode c_Tk_grow 41 = .ok (.iload_n 1, 1) := by decide +kernel
theorem d_Tk_grow_42 : decode c_Tk_grow 42 = .ok (.invokestatic 50, 3) := by decide +kernel
theorem d_Tk_grow_45 : decode c_Tk_grow 45 = .ok (.putfield 19, 3) := by decide +kernel
theorem d_Tk_grow_48 : decode c_Tk_grow 48 = .ok (.return_, 1) := by decide +kernel
theorem d_Tk_kind_0 : decode c_Tk_kind 0 = .ok (.iload_n 1, 1) := by decide +kernel
theorem d_Tk_kind_1 : decode c_Tk_kind 1 = .ok (.ifCond .lt 20, 3) := by decide +kernel
theorem d_Tk_kind_4 : decode c_Tk_kind 4 = .ok (.iload_n 1, 1) := by decide +kernel
theorem d_Tk_kind_5 : decode c_Tk_kind 5 = .ok (.aload_n 0, 1) := by decide +kernel
theorem d_Tk_kind_6 : decode c_Tk_kind 6 = .ok (.getfield 22, 3) := by decide +kernel
theorem d_Tk_kind_9 : decode c_Tk_kind 9 = .ok (.if_icmp .ge 12, 3) := by decide +kernel
theorem d_Tk_kind_12 : decode c_Tk_kind 12 = .ok (.aload_n 0, 1) := by decide +kernel
theorem d_Tk_kind_13 : decode c_Tk_kind 13 = .ok (.getfield 9, 3) := by decide +kernel
theorem d_Tk_kind_16 : decode c_Tk_kind 16 = .ok (.iload_n 1, 1) := by decide +kernel
theorem d_Tk_kind_17 : decode c_Tk_kind 17 = .ok (.iaload, 1) := by decide +kernel
theorem d_Tk_kind_18 : decode c_Tk_kind 18 = .ok (.goto 4, 3) := by decide +kernel
theorem d_Tk_kind_21 : decode c_Tk_kind 21 = .ok (.iconst 0, 1) := by decide +kernel
theorem d_Tk_kind_22 : decode c_Tk_kind 22 = .ok (.ireturn, 1) := by decide +kernel
theorem d_Tk_name_0 : decode c_Tk_name 0 = .ok (.iload_n 1, 1) := by decide +kernel
theorem d_Tk_name_1 : decode c_Tk_name 1 = .ok (.ifCond .lt 20, 3) := by decide +kernel
theorem d_Tk_name_4 : decode c_Tk_name 4 = .ok (.iload_n 1, 1) := by decide +kernel
theorem d_Tk_name_5 : decode c_Tk_name 5 = .ok (.aload_n 0, 1) := by decide +kernel
theorem d_Tk_name_6 : decode c_Tk_name 6 = .ok (.getfield 22, 3) := by decide +kernel
theorem d_Tk_name_9 : decode c_Tk_name 9 = .ok (.if_icmp .ge 12, 3) := by decide +kernel
theorem d_Tk_name_12 : decode c_Tk_name 12 = .ok (.aload_n 0, 1) := by decide +kernel
theorem d_Tk_name_13 : decode c_Tk_name 13 = .ok (.getfield 16, 3) := by decide +kernel
theorem d_Tk_name_16 : decode c_Tk_name 16 = .ok (.iload_n 1, 1) := by decide +kernel
theorem d_Tk_name_17 : decode c_Tk_name 17 = .ok (.iaload, 1) := by decide +kernel
theorem d_Tk_name_18 : decode c_Tk_name 18 = .ok (.goto 4, 3) := by decide +kernel
theorem d_Tk_name_21 : decode c_Tk_name 21 = .ok (.iconst (-1), 1) := by decide +kernel
theorem d_Tk_name_22 : decode c_Tk_name 22 = .ok (.ireturn, 1) := by decide +kernel
theorem d_Tk_line_0 : decode c_Tk_line 0 = .ok (.iload_n 1, 1) := by decide +kernel
theorem d_Tk_line_1 : decode c_Tk_line 1 = .ok (.ifCond .lt 25, 3) := by decide +kernel
theorem d_Tk_line_4 : decode c_Tk_line 4 = .ok (.iload_n 1, 1) := by decide +kernel
theorem d_Tk_line_5 : decode c_Tk_line 5 = .ok (.aload_n 0, 1) := by decide +kernel
theorem d_Tk_line_6 : decode c_Tk_line 6 = .ok (.getfield 22, 3) := by decide +kernel
theorem d_Tk_line_9 : decode c_Tk_line 9 = .ok (.if_icmp .ge 17, 3) := by decide +kernel
theorem d_Tk_line_12 : decode c_Tk_line 12 = .ok (.aload_n 0, 1) := by decide +kernel
theorem d_Tk_line_13 : decode c_Tk_line 13 = .ok (.getfield 19, 3) := by decide +kernel
theorem d_Tk_line_16 : decode c_Tk_line 16 = .ok (.iload_n 1, 1) := by decide +kernel
theorem d_Tk_line_17 : decode c_Tk_line 17 = .ok (.iaload, 1) := by decide +kernel
theorem d_Tk_line_18 : decode c_Tk_line 18 = .ok (.iconst 1, 1) := by decide +kernel
theorem d_Tk_line_19 : decode c_Tk_line 19 = .ok (.if_icmp .ne 7, 3) := by decide +kernel
theorem d_Tk_line_22 : decode c_Tk_line 22 = .ok (.iconst 1, 1) := by decide +kernel
theorem d_Tk_line_23 : decode c_Tk_line 23 = .ok (.goto 4, 3) := by decide +kernel
theorem d_Tk_line_26 : decode c_Tk_line 26 = .ok (.iconst 0, 1) := by decide +kernel
theorem d_Tk_line_27 : decode c_Tk_line 27 = .ok (.ireturn, 1) := by decide +kernel
theorem d_Tk_sign_0 : decode c_Tk_sign 0 = .ok (.iload_n 1, 1) := by decide +kernel
theorem d_Tk_sign_1 : decode c_Tk_sign 1 = .ok (.ifCond .lt 30, 3) := by decide +kernel
theorem d_Tk_sign_4 : decode c_Tk_sign 4 = .ok (.iload_n 1, 1) := by decide +kernel
theorem d_Tk_sign_5 : decode c_Tk_sign 5 = .ok (.aload_n 0, 1) := by decide +kernel
theorem d_Tk_sign_6 : decode c_Tk_sign 6 = .ok (.getfield 22, 3) := by decide +kernel
theorem d_Tk_sign_9 : decode c_Tk_sign 9 = .ok (.if_icmp .ge 22, 3) := by decide +kernel
theorem d_Tk_sign_12 : decode c_Tk_sign 12 = .ok (.aload_n 0, 1) := by decide +kernel
theorem d_Tk_sign_13 : decode c_Tk_sign 13 = .ok (.getfield 9, 3) := by decide +kernel
theorem d_Tk_sign_16 : decode c_Tk_sign 16 = .ok (.iload_n 1, 1) := by decide +kernel
theorem d_Tk_sign_17 : decode c_Tk_sign 17 = .ok (.iaload, 1) := by decide +kernel
theorem d_Tk_sign_18 : decode c_Tk_sign 18 = .ok (.iconst 4, 1) := by decide +kernel
theorem d_Tk_sign_19 : decode c_Tk_sign 19 = .ok (.if_icmp .ne 12, 3) := by decide +kernel
theorem d_Tk_sign_22 : decode c_Tk_sign 22 = .ok (.aload_n 0, 1) := by decide +kernel
theorem d_Tk_sign_23 : decode c_Tk_sign 23 = .ok (.getfield 13, 3) := by decide +kernel
theorem d_Tk_sign_26 : decode c_Tk_sign 26 = .ok (.iload_n 1, 1) := by decide +kernel
theorem d_Tk_sign_27 : decode c_Tk_sign 27 = .ok (.iaload, 1) := by decide +kernel
theorem d_Tk_sign_28 : decode c_Tk_sign 28 = .ok (.goto 4, 3) := by decide +kernel
theorem d_Tk_sign_31 : decode c_Tk_sign 31 = .ok (.iconst (-1), 1) := by decide +kernel
theorem d_Tk_sign_32 : decode c_Tk_sign 32 = .ok (.ireturn, 1) := by decide +kernel
theorem d_Tk_keyword_0 : decode c_Tk_keyword 0 = .ok (.iload_n 1, 1) := by decide +kernel
theorem d_Tk_keyword_1 : decode c_Tk_keyword 1 = .ok (.ifCond .lt 25, 3) := by decide +kernel
theorem d_Tk_keyword_4 : decode c_Tk_keyword 4 = .ok (.iload_n 1, 1) := by decide +kernel
theorem d_Tk_keyword_5 : decode c_Tk_keyword 5 = .ok (.aload_n 0, 1) := by decide +kernel
theorem d_Tk_keyword_6 : decode c_Tk_keyword 6 = .ok (.getfield 22, 3) := by decide +kernel
theorem d_Tk_keyword_9 : decode c_Tk_keyword 9 = .ok (.if_icmp .ge 17, 3) := by decide +kernel
theorem d_Tk_keyword_12 : decode c_Tk_keyword 12 = .ok (.aload_n 0, 1) := by decide +kernel
theorem d_Tk_keyword_13 : decode c_Tk_keyword 13 = .ok (.getfield 9, 3) := by decide +kernel
theorem d_Tk_keyword_16 : decode c_Tk_keyword 16 = .ok (.iload_n 1, 1) := by decide +kernel
theorem d_Tk_keyword_17 : decode c_Tk_keyword 17 = .ok (.iaload, 1) := by decide +kernel
theorem d_Tk_keyword_18 : decode c_Tk_keyword 18 = .ok (.iconst 1, 1) := by decide +kernel
theorem d_Tk_keyword_19 : decode c_Tk_keyword 19 = .ok (.if_icmp .ne 7, 3) := by decide +kernel
theorem d_Tk_keyword_22 : decode c_Tk_keyword 22 = .ok (.iconst 1, 1) := by decide +kernel
theorem d_Tk_keyword_23 : decode c_Tk_keyword 23 = .ok (.goto 4, 3) := by decide +kernel
theorem d_Tk_keyword_26 : decode c_Tk_keyword 26 = .ok (.iconst 0, 1) := by decide +kernel
theorem d_Tk_keyword_27 : decode c_Tk_keyword 27 = .ok (.istore_n 2, 1) := by decide +kernel
theorem d_Tk_keyword_28 : decode c_Tk_keyword 28 = .ok (.iload_n 2, 1) := by decide +kernel
theorem d_Tk_keyword_29 : decode c_Tk_keyword 29 = .ok (.ifCond .eq 23, 3) := by decide +kernel
theorem d_Tk_keyword_32 : decode c_Tk_keyword 32 = .ok (.aload_n 0, 1) := by decide +kernel
theorem d_Tk_keyword_33 : decode c_Tk_keyword 33 = .ok (.getfield 13, 3) := by decide +kernel
theorem d_Tk_keyword_36 : decode c_Tk_keyword 36 = .ok (.iload_n 1, 1) := by decide +kernel
theorem d_Tk_keyword_37 : decode c_Tk_keyword 37 = .ok (.iaload, 1) := by decide +kernel
theorem d_Tk_keyword_38 : decode c_Tk_keyword 38 = .ok (.bipush 35, 2) := by decide +kernel
theorem d_Tk_keyword_40 : decode c_Tk_keyword 40 = .ok (.if_icmp .gt 12, 3) := by decide +kernel
theorem d_Tk_keyword_43 : decode c_Tk_keyword 43 = .ok (.aload_n 0, 1) := by decide +kernel
theorem d_Tk_keyword_44 : decode c_Tk_keyword 44 = .ok (.getfield 13, 3) := by decide +kernel
theorem d_Tk_keyword_47 : decode c_Tk_keyword 47 = .ok (.iload_n 1, 1) := by decide +kernel
theorem d_Tk_keyword_48 : decode c_Tk_keyword 48 = .ok (.iaload, 1) := by decide +kernel
theorem d_Tk_keyword_49 : decode c_Tk_keyword 49 = .ok (.goto 4, 3) := by decide +kernel
theorem d_Tk_keyword_52 : decode c_Tk_keyword 52 = .ok (.iconst (-1), 1) := by decide +kernel
theorem d_Tk_keyword_53 : decode c_Tk_keyword 53 = .ok (.ireturn, 1) := by decide +kernel
theorem d_Tk_identifier_0 : decode c_Tk_identifier 0 = .ok (.iload_n 1, 1) := by decide +kernel
theorem d_Tk_identifier_1 : decode c_Tk_identifier 1 = .ok (.ifCond .lt 21, 3) := by decide +kernel
theorem d_Tk_identifier_4 : decode c_Tk_identifier 4 = .ok (.iload_n 1, 1) := by decide +kernel
theorem d_Tk_identifier_5 : decode c_Tk_identifier 5 = .ok (.aload_n 0, 1) := by decide +kernel
theorem d_Tk_identifier_6 : decode c_Tk_identifier 6 = .ok (.getfield 22, 3) := by decide +kernel
theorem d_Tk_identifier_9 : decode c_Tk_identifier 9 = .ok (.if_icmp .ge 13, 3) := by decide +kernel
theorem d_Tk_identifier_12 : decode c_Tk_identifier 12 = .ok (.aload_n 0, 1) := by decide +kernel
theorem d_Tk_identifier_13 : decode c_Tk_identifier 13 = .ok (.getfield 9, 3) := by decide +kernel
theorem d_Tk_identifier_16 : decode c_Tk_identifier 16 = .ok (.iload_n 1, 1) := by decide +kernel
theorem d_Tk_identifier_17 : decode c_Tk_identifier 17 = .ok (.iaload, 1) := by decide +kernel
theorem d_Tk_identifier_18 : decode c_Tk_identifier 18 = .ok (.iconst 1, 1) := by decide +kernel
theorem d_Tk_identifier_19 : decode c_Tk_identifier 19 = .ok (.if_icmp .eq 5, 3) := by decide +kernel
theorem d_Tk_identifier_22 : decode c_Tk_identifier 22 = .ok (.iconst 0, 1) := by decide +kernel
theorem d_Tk_identifier_23 : decode c_Tk_identifier 23 = .ok (.ireturn, 1) := by decide +kernel
theorem d_Tk_identifier_24 : decode c_Tk_identifier 24 = .ok (.aload_n 0, 1) := by decide +kernel
theorem d_Tk_identifier_25 : decode c_Tk_identifier 25 = .ok (.getfield 13, 3) := by decide +kernel
theorem d_Tk_identifier_28 : decode c_Tk_identifier 28 = .ok (.iload_n 1, 1) := by decide +kernel
theorem d_Tk_identifier_29 : decode c_Tk_identifier 29 = .ok (.iaload, 1) := by decide +kernel
theorem d_Tk_identifier_30 : decode c_Tk_identifier 30 = .ok (.bipush 100, 2) := by decide +kernel
theorem d_Tk_identifier_32 : decode c_Tk_identifier 32 = .ok (.if_icmp .lt 15, 3) := by decide +kernel
theorem d_Tk_identifier_35 : decode c_Tk_identifier 35 = .ok (.aload_n 0, 1) := by decide +kernel
theorem d_Tk_identifier_36 : decode c_Tk_identifier 36 = .ok (.getfield 13, 3) := by decide +kernel
theorem d_Tk_identifier_39 : decode c_Tk_identifier 39 = .ok (.iload_n 1, 1) := by decide +kernel
theorem d_Tk_identifier_40 : decode c_Tk_identifier 40 = .ok (.iaload, 1) := by decide +kernel
theorem d_Tk_identifier_41 : decode c_Tk_identifier 41 = .ok (.bipush 100, 2) := by decide +kernel
theorem d_Tk_identifier_43 : decode c_Tk_identifier 43 = .ok (.isub, 1) := by decide +kernel
theorem d_Tk_identifier_44 : decode c_Tk_identifier 44 = .ok (.goto 9, 3) := by decide +kernel
theorem d_Tk_identifier_47 : decode c_Tk_identifier 47 = .ok (.aload_n 0, 1) := by decide +kernel
theorem d_Tk_identifier_48 : decode c_Tk_identifier 48 = .ok (.getfield 13, 3) := by decide +kernel
theorem d_Tk_identifier_51 : decode c_Tk_identifier 51 = .ok (.iload_n 1, 1) := by decide +kernel
theorem d_Tk_identifier_52 : decode c_Tk_identifier 52 = .ok (.iaload, 1) := by decide +kernel
theorem d_Tk_identifier_53 : decode c_Tk_identifier 53 = .ok (.istore_n 3, 1) := by decide +kernel
theorem d_Tk_identifier_54 : decode c_Tk_identifier 54 = .ok (.iload_n 3, 1) := by decide +kernel
theorem d_Tk_identifier_55 : decode c_Tk_identifier 55 = .ok (.iconst (-1), 1) := by decide +kernel
theorem d_Tk_identifier_56 : decode c_Tk_identifier 56 = .ok (.if_icmp .eq 13, 3) := by decide +kernel
theorem d_Tk_identifier_59 : decode c_Tk_identifier 59 = .ok (.iload_n 2, 1) := by decide +kernel
theorem d_Tk_identifier_60 : decode c_Tk_identifier 60 = .ok (.ifCond .ne 13, 3) := by decide +kernel
theorem d_Tk_identifier_63 : decode c_Tk_identifier 63 = .ok (.iload_n 3, 1) := by decide +kernel
theorem d_Tk_identifier_64 : decode c_Tk_identifier 64 = .ok (.bipush 35, 2) := by decide +kernel
theorem d_Tk_identifier_66 : decode c_Tk_identifier 66 = .ok (.if_icmp .le 7, 3) := by decide +kernel
theorem d_Tk_identifier_69 : decode c_Tk_identifier 69 = .ok (.iconst 1, 1) := by decide +kernel
theorem d_Tk_identifier_70 : decode c_Tk_identifier 70 = .ok (.goto 4, 3) := by decide +kernel
theorem d_Tk_identifier_73 : decode c_Tk_identifier 73 = .ok (.iconst 0, 1) := by decide +kernel
theorem d_Tk_identifier_74 : decode c_Tk_identifier 74 = .ok (.ireturn, 1) := by decide +kernel
theorem d_Tk_evalOrArguments_0 : decode c_Tk_evalOrArguments 0 = .ok (.iload_n 0, 1) := by decide +kernel
theorem d_Tk_evalOrArguments_1 : decode c_Tk_evalOrArguments 1 = .ok (.ifCond .eq 8, 3) := by decide +kernel
theorem d_Tk_evalOrArguments_4 : decode c_Tk_evalOrArguments 4 = .ok (.iload_n 0, 1) := by decide +kernel
theorem d_Tk_evalOrArguments_5 : decode c_Tk_evalOrArguments 5 = .ok (.iconst 1, 1) := by decide +kernel
theorem d_Tk_evalOrArguments_6 : decode c_Tk_evalOrArguments 6 = .ok (.if_icmp .ne 7, 3) := by decide +kernel
theorem d_Tk_evalOrArguments_9 : decode c_Tk_evalOrArguments 9 = .ok (.iconst 1, 1) := by decide +kernel
theorem d_Tk_evalOrArguments_10 : decode c_Tk_evalOrArguments 10 = .ok (.goto 4, 3) := by decide +kernel
theorem d_Tk_evalOrArguments_13 : decode c_Tk_evalOrArguments 13 = .ok (.iconst 0, 1) := by decide +kernel
theorem d_Tk_evalOrArguments_14 : decode c_Tk_evalOrArguments 14 = .ok (.ireturn, 1) := by decide +kernel
theorem d_Tk_asksForStrict_0 : decode c_Tk_asksForStrict 0 = .ok (.iload_n 1, 1) := by decide +kernel
theorem d_Tk_asksForStrict_1 : decode c_Tk_asksForStrict 1 = .ok (.ifCond .lt 35, 3) := by decide +kernel
theorem d_Tk_asksForStrict_4 : decode c_Tk_asksForStrict 4 = .ok (.iload_n 1, 1) := by decide +kernel
theorem d_Tk_asksForStrict_5 : decode c_Tk_asksForStrict 5 = .ok (.aload_n 0, 1) := by decide +kernel
theorem d_Tk_asksForStrict_6 : decode c_Tk_asksForStrict 6 = .ok (.getfield 22, 3) := by decide +kernel
theorem d_Tk_asksForStrict_9 : decode c_Tk_asksForStrict 9 = .ok (.if_icmp .ge 27, 3) := by decide +kernel
theorem d_Tk_asksForStrict_12 : decode c_Tk_asksForStrict 12 = .ok (.aload_n 0, 1) := by decide +kernel
theorem d_Tk_asksForStrict_13 : decode c_Tk_asksForStrict 13 = .ok (.getfield 9, 3) := by decide +kernel
theorem d_Tk_asksForStrict_16 : decode c_Tk_asksForStrict 16 = .ok (.iload_n 1, 1) := by decide +kernel
theorem d_Tk_asksForStrict_17 : decode c_Tk_asksForStrict 17 = .ok (.iaload, 1) := by decide +kernel
theorem d_Tk_asksForStrict_18 : decode c_Tk_asksForStrict 18 = .ok (.iconst 3, 1) := by decide +kernel
theorem d_Tk_asksForStrict_19 : decode c_Tk_asksForStrict 19 = .ok (.if_icmp .ne 17, 3) := by decide +kernel
theorem d_Tk_asksForStrict_22 : decode c_Tk_asksForStrict 22 = .ok (.aload_n 0, 1) := by decide +kernel
theorem d_Tk_asksForStrict_23 : decode c_Tk_asksForStrict 23 = .ok (.getfield 13, 3) := by decide +kernel
theorem d_Tk_asksForStrict_26 : decode c_Tk_asksForStrict 26 = .ok (.iload_n 1, 1) := by decide +kernel
theorem d_Tk_asksForStrict_27 : decode c_Tk_asksForStrict 27 = .ok (.iaload, 1) := by decide +kernel
theorem d_Tk_asksForStrict_28 : decode c_Tk_asksForStrict 28 = .ok (.iconst 1, 1) := by decide +kernel
theorem d_Tk_asksForStrict_29 : decode c_Tk_asksForStrict 29 = .ok (.if_icmp .ne 7, 3) := by decide +kernel
theorem d_Tk_asksForStrict_32 : decode c_Tk_asksForStrict 32 = .ok (.iconst 1, 1) := by decide +kernel
theorem d_Tk_asksForStrict_33 : decode c_Tk_asksForStrict 33 = .ok (.goto 4, 3) := by decide +kernel
theorem d_Tk_asksForStrict_36 : decode c_Tk_asksForStrict 36 = .ok (.iconst 0, 1) := by decide +kernel
theorem d_Tk_asksForStrict_37 : decode c_Tk_asksForStrict 37 = .ok (.ireturn, 1) := by decide +kernel
theorem d_Tk_propertyName_0 : decode c_Tk_propertyName 0 = .ok (.aload_n 0, 1) := by decide +kernel
theorem d_Tk_propertyName_1 : decode c_Tk_propertyName 1 = .ok (.iload_n 1, 1) := by decide +kernel
theorem d_Tk_propertyName_2 : decode c_Tk_propertyName 2 = .ok (.invokevirtual 56, 3) := by decide +kernel
theorem d_Tk_propertyName_5 : decode c_Tk_propertyName 5 = .ok (.istore_n 2, 1) := by decide +kernel
theorem d_Tk_propertyName_6 : decode c_Tk_propertyName 6 = .ok (.iload_n 2, 1) := by decide +kernel
theorem d_Tk_propertyName_7 : decode c_Tk_propertyName 7 = .ok (.iconst 1, 1) := by decide +kernel
theorem d_Tk_propertyName_8 : decode c_Tk_propertyName 8 = .ok (.if_icmp .eq 13, 3) := by decide +kernel
theorem d_Tk_propertyName_11 : decode c_Tk_propertyName 11 = .ok (.iload_n 2, 1) := by decide +kernel
theorem d_Tk_propertyName_12 : decode c_Tk_propertyName 12 = .ok (.iconst 2, 1) := by decide +kernel
theorem d_Tk_propertyName_13 : decode c_Tk_propertyName 13 = .ok (.if_icmp .eq 8, 3) := by decide +kernel
theorem d_Tk_propertyName_16 : decode c_Tk_propertyName 16 = .ok (.iload_n 2, 1) := by decide +kernel
theorem d_Tk_propertyName_17 : decode c_Tk_propertyName 17 = .ok (.iconst 3, 1) := by decide +kernel
theorem d_Tk_propertyName_18 : decode c_Tk_propertyName 18 = .ok (.if_icmp .ne 7, 3) := by decide +kernel
theorem d_Tk_propertyName_21 : decode c_Tk_propertyName 21 = .ok (.iconst 1, 1) := by decide +kernel
theorem d_Tk_propertyName_22 : decode c_Tk_propertyName 22 = .ok (.goto 4, 3) := by decide +kernel
theorem d_Tk_propertyName_25 : decode c_Tk_propertyName 25 = .ok (.iconst 0, 1) := by decide +kernel
theorem d_Tk_propertyName_26 : decode c_Tk_propertyName 26 = .ok (.ireturn, 1) := by decide +kernel
theorem d_Tr_init_0 : decode c_Tr_init 0 = .ok (.aload_n 0, 1) := by decide +kernel
theorem d_Tr_init_1 : decode c_Tr_init 1 = .ok (.invokespecial 1, 3) := by decide +kernel
theorem d_Tr_init_4 : decode c_Tr_init 4 = .ok (.aload_n 0, 1) := by decide +kernel
theorem d_Tr_init_5 : decode c_Tr_init 5 = .ok (.bipush 64, 2) := by decide +kernel
theorem d_Tr_init_7 : decode c_Tr_init 7 = .ok (.newarray .int, 2) := by decide +kernel
theorem d_Tr_init_9 : decode c_Tr_init 9 = .ok (.putfield 9, 3) := by decide +kernel
theorem d_Tr_init_12 : decode c_Tr_init 12 = .ok (.aload_n 0, 1) := by decide +kernel
theorem d_Tr_init_13 : decode c_Tr_init 13 = .ok (.bipush 64, 2) := by decide +kernel
theorem d_Tr_init_15 : decode c_Tr_init 15 = .ok (.newarray .int, 2) := by decide +kernel
theorem d_Tr_init_17 : decode c_Tr_init 17 = .ok (.putfield 13, 3) := by decide +kernel
theorem d_Tr_init_20 : decode c_Tr_init 20 = .ok (.aload_n 0, 1) := by decide +kernel
theorem d_Tr_init_21 : decode c_Tr_init 21 = .ok (.bipush 64, 2) := by decide +kernel
theorem d_Tr_init_23 : decode c_Tr_init 23 = .ok (.newarray .int, 2) := by decide +kernel
theorem d_Tr_init_25 : decode c_Tr_init 25 = .ok (.putfield 16, 3) := by decide +kernel
theorem d_Tr_init_28 : decode c_Tr_init 28 = .ok (.aload_n 0, 1) := by decide +kernel
theorem d_Tr_init_29 : decode c_Tr_init 29 = .ok (.bipush 64, 2) := by decide +kernel
theorem d_Tr_init_31 : decode c_Tr_init 31 = .ok (.newarray .int, 2) := by decide +kernel
theorem d_Tr_init_33 : decode c_Tr_init 33 = .ok (.putfield 19, 3) := by decide +kernel
theorem d_Tr_init_36 : decode c_Tr_init 36 = .ok (.aload_n 0, 1) := by decide +kernel
theorem d_Tr_init_37 : decode c_Tr_init 37 = .ok (.iconst 0, 1) := by decide +kernel
theorem d_Tr_init_38 : decode c_Tr_init 38 = .ok (.putfield 22, 3) := by decide +kernel
theorem d_Tr_init_41 : decode c_Tr_init 41 = .ok (.return_, 1) := by decide +kernel
theorem d_Tr_count_0 : decode c_Tr_count 0 = .ok (.aload_n 0, 1) := by decide +kernel
theorem d_Tr_count_1 : decode c_Tr_count 1 = .ok (.getfield 22, 3) := by decide +kernel
theorem d_Tr_count_4 : decode c_Tr_count 4 = .ok (.ireturn, 1) := by decide +kernel
theorem d_Tr_clear_0 : decode c_Tr_clear 0 = .ok (.aload_n 0, 1) := by decide +kernel
theorem d_Tr_clear_1 : decode c_Tr_clear 1 = .ok (.iconst 0, 1) := by decide +kernel
theorem d_Tr_clear_2 : decode c_Tr_clear 2 = .ok (.putfield 22, 3) := by decide +kernel
theorem d_Tr_clear_5 : decode c_Tr_clear 5 = .ok (.return_, 1) := by decide +kernel
theorem d_Tr_has_0 : decode c_Tr_has 0 = .ok (.iload_n 1, 1) := by decide +kernel
theorem d_Tr_has_1 : decode c_Tr_has 1 = .ok (.ifCond .lt 15, 3) := by decide +kernel
theorem d_Tr_has_4 : decode c_Tr_has 4 = .ok (.iload_n 1, 1) := by decide +kernel
theorem d_Tr_has_5 : decode c_Tr_has 5 = .ok (.aload_n 0, 1) := by decide +kernel
theorem d_Tr_has_6 : decode c_Tr_has 6 = .ok (.getfield 22, 3) := by decide +kernel
theorem d_Tr_has_9 : decode c_Tr_has 9 = .ok (.if_icmp .ge 7, 3) := by decide +kernel
theorem d_Tr_has_12 : decode c_Tr_has 12 = .ok (.iconst 1, 1) := by decide +kernel
theorem d_Tr_has_13 : decode c_Tr_has 13 = .ok (.goto 4, 3) := by decide +kernel
theorem d_Tr_has_16 : decode c_Tr_has 16 = .ok (.iconst 0, 1) := by decide +kernel
theorem d_Tr_has_17 : decode c_Tr_has 17 = .ok (.ireturn, 1) := by decide +kernel
theorem d_Tr_kind_0 : decode c_Tr_kind 0 = .ok (.iload_n 1, 1) := by decide +kernel
theorem d_Tr_kind_1 : decode c_Tr_kind 1 = .ok (.ifCond .lt 20, 3) := by decide +kernel
theorem d_Tr_kind_4 : decode c_Tr_kind 4 = .ok (.iload_n 1, 1) := by decide +kernel
theorem d_Tr_kind_5 : decode c_Tr_kind 5 = .ok (.aload_n 0, 1) := by decide +kernel
theorem d_Tr_kind_6 : decode c_Tr_kind 6 = .ok (.getfield 22, 3) := by decide +kernel
theorem d_Tr_kind_9 : decode c_Tr_kind 9 = .ok (.if_icmp .ge 12, 3) := by decide +kernel
theorem d_Tr_kind_12 : decode c_Tr_kind 12 = .ok (.aload_n 0, 1) := by decide +kernel
theorem d_Tr_kind_13 : decode c_Tr_kind 13 = .ok (.getfield 9, 3) := by decide +kernel
theorem d_Tr_kind_16 : decode c_Tr_kind 16 = .ok (.iload_n 1, 1) := by decide +kernel
theorem d_Tr_kind_17 : decode c_Tr_kind 17 = .ok (.iaload, 1) := by decide +kernel
theorem d_Tr_kind_18 : decode c_Tr_kind 18 = .ok (.goto 4, 3) := by decide +kernel
theorem d_Tr_kind_21 : decode c_Tr_kind 21 = .ok (.iconst (-1), 1) := by decide +kernel
theorem d_Tr_kind_22 : decode c_Tr_kind 22 = .ok (.ireturn, 1) := by decide +kernel
theorem d_Tr_value_0 : decode c_Tr_value 0 = .ok (.iload_n 1, 1) := by decide +kernel
theorem d_Tr_value_1 : decode c_Tr_value 1 = .ok (.ifCond .lt 20, 3) := by decide +kernel
theorem d_Tr_value_4 : decode c_Tr_value 4 = .ok (.iload_n 1, 1) := by decide +kernel
theorem d_Tr_value_5 : decode c_Tr_value 5 = .ok (.aload_n 0, 1) := by decide +kernel
theorem d_Tr_value_6 : decode c_Tr_value 6 = .ok (.getfield 22, 3) := by decide +kernel
theorem d_Tr_value_9 : decode c_Tr_value 9 = .ok (.if_icmp .ge 12, 3) := by decide +kernel
theorem d_Tr_value_12 : decode c_Tr_value 12 = .ok (.aload_n 0, 1) := by decide +kernel
theorem d_Tr_value_13 : decode c_Tr_value 13 = .ok (.getfield 13, 3) := by decide +kernel
theorem d_Tr_value_16 : decode c_Tr_value 16 = .ok (.iload_n 1, 1) := by decide +kernel
theorem d_Tr_value_17 : decode c_Tr_value 17 = .ok (.iaload, 1) := by decide +kernel
theorem d_Tr_value_18 : decode c_Tr_value 18 = .ok (.goto 4, 3) := by decide +kernel
theorem d_Tr_value_21 : decode c_Tr_value 21 = .ok (.iconst 0, 1) := by decide +kernel
theorem d_Tr_value_22 : decode c_Tr_value 22 = .ok (.ireturn, 1) := by decide +kernel
theorem d_Tr_where_0 : decode c_Tr_where 0 = .ok (.iload_n 1, 1) := by decide +kernel
theorem d_Tr_where_1 : decode c_Tr_where 1 = .ok (.ifCond .lt 20, 3) := by decide +kernel
theorem d_Tr_where_4 : decode c_Tr_where 4 = .ok (.iload_n 1, 1) := by decide +kernel
theorem d_Tr_where_5 : decode c_Tr_where 5 = .ok (.aload_n 0, 1) := by decide +kernel
theorem d_Tr_where_6 : decode c_Tr_where 6 = .ok (.getfield 22, 3) := by decide +kernel
theorem d_Tr_where_9 : decode c_Tr_where 9 = .ok (.if_icmp .ge 12, 3) := by decide +kernel
theorem d_Tr_where_12 : decode c_Tr_where 12 = .ok (.aload_n 0, 1) := by decide +kernel
theorem d_Tr_where_13 : decode c_Tr_where 13 = .ok (.getfield 16, 3) := by decide +kernel
theorem d_Tr_where_16 : decode c_Tr_where 16 = .ok (.iload_n 1, 1) := by decide +kernel
theorem d_Tr_where_17 : decode c_Tr_where 17 = .ok (.iaload, 1) := by decide +kernel
theorem d_Tr_where_18 : decode c_Tr_where 18 = .ok (.goto 4, 3) := by decide +kernel
theorem d_Tr_where_21 : decode c_Tr_where 21 = .ok (.iconst 0, 1) := by decide +kernel
theorem d_Tr_where_22 : decode c_Tr_where 22 = .ok (.ireturn, 1) := by decide +kernel
theorem d_Tr_setKind_0 : decode c_Tr_setKind 0 = .ok (.aload_n 0, 1) := by decide +kernel
theorem d_Tr_setKind_1 : decode c_Tr_setKind 1 = .ok (.iload_n 1, 1) := by decide +kernel
theorem d_Tr_setKind_2 : decode c_Tr_setKind 2 = .ok (.invokevirtual 26, 3) := by decide +kernel
theorem d_Tr_setKind_5 : decode c_Tr_setKind 5 = .ok (.ifCond .eq 10, 3) := by decide +kernel
theorem d_Tr_setKind_8 : decode c_Tr_setKind 8 = .ok (.aload_n 0, 1) := by decide +kernel
theorem d_Tr_setKind_9 : decode c_Tr_setKind 9 = .ok (.getfield 9, 3) := by decide +kernel
theorem d_Tr_setKind_12 : decode c_Tr_setKind 12 = .ok (.iload_n 1, 1) := by decide +kernel
theorem d_Tr_setKind_13 : decode c_Tr_setKind 13 = .ok (.iload_n 2, 1) := by decide +kernel
theorem d_Tr_setKind_14 : decode c_Tr_setKind 14 = .ok (.iastore, 1) := by decide +kernel
theorem d_Tr_setKind_15 : decode c_Tr_setKind 15 = .ok (.return_, 1) := by decide +kernel
theorem d_Tr_setValue_0 : decode c_Tr_setValue 0 = .ok (.aload_n 0, 1) := by decide +kernel
theorem d_Tr_setValue_1 : decode c_Tr_setValue 1 = .ok (.iload_n 1, 1) := by decide +kernel
theorem d_Tr_setValue_2 : decode c_Tr_setValue 2 = .ok (.invokevirtual 26, 3) := by decide +kernel
theorem d_Tr_setValue_5 : decode c_Tr_setValue 5 = .ok (.ifCond .eq 10, 3) := by decide +kernel
theorem d_Tr_setValue_8 : decode c_Tr_setValue 8 = .ok (.aload_n 0, 1) := by decide +kernel
theorem d_Tr_setValue_9 : decode c_Tr_setValue 9 = .ok (.getfield 13, 3) := by decide +kernel
theorem d_Tr_setValue_12 : decode c_Tr_setValue 12 = .ok (.iload_n 1, 1) := by decide +kernel
theorem d_Tr_setValue_13 : decode c_Tr_setValue 13 = .ok (.iload_n 2, 1) := by decide +kernel
theorem d_Tr_setValue_14 : decode c_Tr_setValue 14 = .ok (.iastore, 1) := by decide +kernel
theorem d_Tr_setValue_15 : decode c_Tr_setValue 15 = .ok (.return_, 1) := by decide +kernel
theorem d_Tr_open_0 : decode c_Tr_open 0 = .ok (.aload_n 0, 1) := by decide +kernel
theorem d_Tr_open_1 : decode c_Tr_open 1 = .ok (.invokevirtual 30, 3) := by decide +kernel
theorem d_Tr_open_4 : decode c_Tr_open 4 = .ok (.aload_n 0, 1) := by decide +kernel
theorem d_Tr_open_5 : decode c_Tr_open 5 = .ok (.aload_n 0, 1) := by decide +kernel
theorem d_Tr_open_6 : decode c_Tr_open 6 = .ok (.getfield 22, 3) := by decide +kernel
theorem d_Tr_open_9 : decode c_Tr_open 9 = .ok (.iload_n 1, 1) := by decide +kernel
theorem d_Tr_open_10 : decode c_Tr_open 10 = .ok (.iload_n 2, 1) := by decide +kernel
theorem d_Tr_open_11 : decode c_Tr_open 11 = .ok (.iload_n 3, 1) := by decide +kernel
theorem d_Tr_open_12 : decode c_Tr_open 12 = .ok (.iconst 1, 1) := by decide +kernel
theorem d_Tr_open_13 : decode c_Tr_open 13 = .ok (.invokevirtual 33, 3) := by decide +kernel
theorem d_Tr_open_16 : decode c_Tr_open 16 = .ok (.aload_n 0, 1) := by decide +kernel
theorem d_Tr_open_17 : decode c_Tr_open 17 = .ok (.dup, 1) := by decide +kernel
theorem d_Tr_open_18 : decode c_Tr_open 18 = .ok (.getfield 22, 3) := by decide +kernel
theorem d_Tr_open_21 : decode c_Tr_open 21 = .ok (.iconst 1, 1) := by decide +kernel
theorem d_Tr_open_22 : decode c_Tr_open 22 = .ok (.iadd, 1) := by decide +kernel
theorem d_Tr_open_23 : decode c_Tr_open 23 = .ok (.putfield 22, 3) := by decide +kernel
theorem d_Tr_open_26 : decode c_Tr_open 26 = .ok (.aload_n 0, 1) := by decide +kernel
theorem d_Tr_open_27 : decode c_Tr_open 27 = .ok (.getfield 22, 3) := by decide +kernel
theorem d_Tr_open_30 : decode c_Tr_open 30 = .ok (.iconst 1, 1) := by decide +kernel
theorem d_Tr_open_31 : decode c_Tr_open 31 = .ok (.isub, 1) := by decide +kernel
theorem d_Tr_open_32 : decode c_Tr_open 32 = .ok (.ireturn, 1) := by decide +kernel
theorem d_Tr_close_0 : decode c_Tr_close 0 = .ok (.aload_n 0, 1) := by decide +kernel
theorem d_Tr_close_1 : decode c_Tr_close 1 = .ok (.iload_n 1, 1) := by decide +kernel
theorem d_Tr_close_2 : decode c_Tr_close 2 = .ok (.invokevirtual 26, 3) := by decide +kernel
theorem d_Tr_close_5 : decode c_Tr_close 5 = .ok (.ifCond .eq 15, 3) := by decide +kernel
theorem d_Tr_close_8 : decode c_Tr_close 8 = .ok (.aload_n 0, 1) := by decide +kernel
theorem d_Tr_close_9 : decode c_Tr_close 9 = .ok (.getfield 19, 3) := by decide +kernel
theorem d_Tr_close_12 : decode c_Tr_close 12 = .ok (.iload_n 1, 1) := by decide +kernel
theorem d_Tr_close_13 : decode c_Tr_close 13 = .ok (.aload_n 0, 1) := by decide +kernel
theorem d_Tr_close_14 : decode c_Tr_close 14 = .ok (.getfield 22, 3) := by decide +kernel
theorem d_Tr_close_17 : decode c_Tr_close 17 = .ok (.iload_n 1, 1) := by decide +kernel
theorem d_Tr_close_18 : decode c_Tr_close 18 = .ok (.isub, 1) := by decide +kernel
theorem d_Tr_close_19 : decode c_Tr_close 19 = .ok (.iastore, 1) := by decide +kernel
theorem d_Tr_close_20 : decode c_Tr_close 20 = .ok (.return_, 1) := by decide +kernel
theorem d_Tr_wrap_0 : decode c_Tr_wrap 0 = .ok (.aload_n 0, 1) := by decide +kernel
theorem d_Tr_wrap_1 : decode c_Tr_wrap 1 = .ok (.iload_n 1, 1) := by decide +kernel
theorem d_Tr_wrap_2 : decode c_Tr_wrap 2 = .ok (.invokevirtual 26, 3) := by decide +kernel
theorem d_Tr_wrap_5 : decode c_Tr_wrap 5 = .ok (.ifCond .ne 4, 3) := by decide +kernel
theorem d_Tr_wrap_8 : decode c_Tr_wrap 8 = .ok (.return_, 1) := by decide +kernel
theorem d_Tr_wrap_9 : decode c_Tr_wrap 9 = .ok (.aload_n 0, 1) := by decide +kernel
theorem d_Tr_wrap_10 : decode c_Tr_wrap 10 = .ok (.invokevirtual 30, 3) := by decide +kernel
theorem d_Tr_wrap_13 : decode c_Tr_wrap 13 = .ok (.aload_n 0, 1) := by decide +kernel
theorem d_Tr_wrap_14 : decode c_Tr_wrap 14 = .ok (.getfield 22, 3) := by decide +kernel
theorem d_Tr_wrap_17 : decode c_Tr_wrap 17 = .ok (.iload_n 1, 1) := by decide +kernel
theorem d_Tr_wrap_18 : decode c_Tr_wrap 18 = .ok (.isub, 1) := by decide +kernel
theorem d_Tr_wrap_19 : decode c_Tr_wrap 19 = .ok (.istore 5, 2) := by decide +kernel
theorem d_Tr_wrap_21 : decode c_Tr_wrap 21 = .ok (.aload_n 0, 1) := by decide +kernel
theorem d_Tr_wrap_22 : decode c_Tr_wrap 22 = .ok (.getfield 9, 3) := by decide +kernel
theorem d_Tr_wrap_25 : decode c_Tr_wrap 25 = .ok (.iload_n 1, 1) := by decide +kernel
theorem d_Tr_wrap_26 : decode c_Tr_wrap 26 = .ok (.aload_n 0, 1) := by decide +kernel
theorem d_Tr_wrap_27 : decode c_Tr_wrap 27 = .ok (.getfield 9, 3) := by decide +kernel
theorem d_Tr_wrap_30 : decode c_Tr_wrap 30 = .ok (.iload_n 1, 1) := by decide +kernel
theorem d_Tr_wrap_31 : decode c_Tr_wrap 31 = .ok (.iconst 1, 1) := by decide +kernel
theorem d_Tr_wrap_32 : decode c_Tr_wrap 32 = .ok (.iadd, 1) := by decide +kernel
theorem d_Tr_wrap_33 : decode c_Tr_wrap 33 = .ok (.iload 5, 2) := by decide +kernel
theorem d_Tr_wrap_35 : decode c_Tr_wrap 35 = .ok (.invokestatic 37, 3) := by decide +kernel
theorem d_Tr_wrap_38 : decode c_Tr_wrap 38 = .ok (.aload_n 0, 1) := by decide +kernel
theorem d_Tr_wrap_39 : decode c_Tr_wrap 39 = .ok (.getfield 13, 3) := by decide +kernel
theorem d_Tr_wrap_42 : decode c_Tr_wrap 42 = .ok (.iload_n 1, 1) := by decide +kernel
theorem d_Tr_wrap_43 : decode c_Tr_wrap 43 = .ok (.aload_n 0, 1) := by decide +kernel
theorem d_Tr_wrap_44 : decode c_Tr_wrap 44 = .ok (.getfield 13, 3) := by decide +kernel
theorem d_Tr_wrap_47 : decode c_Tr_wrap 47 = .ok (.iload_n 1, 1) := by decide +kernel
theorem d_Tr_wrap_48 : decode c_Tr_wrap 48 = .ok (.iconst 1, 1) := by decide +kernel
theorem d_Tr_wrap_49 : decode c_Tr_wrap 49 = .ok (.iadd, 1) := by decide +kernel
theorem d_Tr_wrap_50 : decode c_Tr_wrap 50 = .ok (.iload 5, 2) := by decide +kernel
theorem d_Tr_wrap_52 : decode c_Tr_wrap 52 = .ok (.invokestatic 37, 3) := by decide +kernel
theorem d_Tr_wrap_55 : decode c_Tr_wrap 55 = .ok (.aload_n 0, 1) := by decide +kernel
theorem d_Tr_wrap_56 : decode c_Tr_wrap 56 = .ok (.getfield 16, 3) := by decide +kernel
theorem d_Tr_wrap_59 : decode c_Tr_wrap 59 = .ok (.iload_n 1, 1) := by decide +kernel
theorem d_Tr_wrap_60 : decode c_Tr_wrap 60 = .ok (.aload_n 0, 1) := by decide +kernel
theorem d_Tr_wrap_61 : decode c_Tr_wrap 61 = .ok (.getfield 16, 3) := by decide +kernel
theorem d_Tr_wrap_64 : decode c_Tr_wrap 64 = .ok (.iload_n 1, 1) := by decide +kernel
theorem d_Tr_wrap_65 : decode c_Tr_wrap 65 = .ok (.iconst 1, 1) := by decide +kernel
theorem d_Tr_wrap_66 : decode c_Tr_wrap 66 = .ok (.iadd, 1) := by decide +kernel
theorem d_Tr_wrap_67 : decode c_Tr_wrap 67 = .ok (.iload 5, 2) := by decide +kernel
theorem d_Tr_wrap_69 : decode c_Tr_wrap 69 = .ok (.invokestatic 37, 3) := by decide +kernel
theorem d_Tr_wrap_72 : decode c_Tr_wrap 72 = .ok (.aload_n 0, 1) := by decide +kernel
theorem d_Tr_wrap_73 : decode c_Tr_wrap 73 = .ok (.getfield 19, 3) := by decide +kernel
theorem d_Tr_wrap_76 : decode c_Tr_wrap 76 = .ok (.iload_n 1, 1) := by decide +kernel
theorem d_Tr_wrap_77 : decode c_Tr_wrap 77 = .ok (.aload_n 0, 1) := by decide +kernel
theorem d_Tr_wrap_78 : decode c_Tr_wrap 78 = .ok (.getfield 19, 3) := by decide +kernel
theorem d_Tr_wrap_81 : decode c_Tr_wrap 81 = .ok (.iload_n 1, 1) := by decide +kernel
theorem d_Tr_wrap_82 : decode c_Tr_wrap 82 = .ok (.iconst 1, 1) := by decide +kernel
theorem d_Tr_wrap_83 : decode c_Tr_wrap 83 = .ok (.iadd, 1) := by decide +kernel
theorem d_Tr_wrap_84 : decode c_Tr_wrap 84 = .ok (.iload 5, 2) := by decide +kernel
theorem d_Tr_wrap_86 : decode c_Tr_wrap 86 = .ok (.invokestatic 37, 3) := by decide +kernel
theorem d_Tr_wrap_89 : decode c_Tr_wrap 89 = .ok (.aload_n 0, 1) := by decide +kernel
theorem d_Tr_wrap_90 : decode c_Tr_wrap 90 = .ok (.iload_n 1, 1) := by decide +kernel
theorem d_Tr_wrap_91 : decode c_Tr_wrap 91 = .ok (.iload_n 2, 1) := by decide +kernel
theorem d_Tr_wrap_92 : decode c_Tr_wrap 92 = .ok (.iload_n 3, 1) := by decide +kernel
theorem d_Tr_wrap_93 : decode c_Tr_wrap 93 = .ok (.iload 4, 2) := by decide +kernel
theorem d_Tr_wrap_95 : decode c_Tr_wrap 95 = .ok (.iload 5, 2) := by decide +kernel
theorem d_Tr_wrap_97 : decode c_Tr_wrap 97 = .ok (.iconst 1, 1) := by decide +kernel
theorem d_Tr_wrap_98 : decode c_Tr_wrap 98 = .ok (.iadd, 1) := by decide +kernel
theorem d_Tr_wrap_99 : decode c_Tr_wrap 99 = .ok (.invokevirtual 33, 3) := by decide +kernel
theorem d_Tr_wrap_102 : decode c_Tr_wrap 102 = .ok (.aload_n 0, 1) := by decide +kernel
theorem d_Tr_wrap_103 : decode c_Tr_wrap 103 = .ok (.dup, 1) := by decide +kernel
theorem d_Tr_wrap_104 : decode c_Tr_wrap 104 = .ok (.getfield 22, 3) := by decide +kernel
theorem d_Tr_wrap_107 : decode c_Tr_wrap 107 = .ok (.iconst 1, 1) := by decide +kernel
theorem d_Tr_wrap_108 : decode c_Tr_wrap 108 = .ok (.iadd, 1) := by decide +kernel
theorem d_Tr_wrap_109 : decode c_Tr_wrap 109 = .ok (.putfield 22, 3) := by decide +kernel
theorem d_Tr_wrap_112 : decode c_Tr_wrap 112 = .ok (.return_, 1) := by decide +kernel
theorem d_Tr_put_0 : decode c_Tr_put 0 = .ok (.aload_n 0, 1) := by decide +kernel
theorem d_Tr_put_1 : decode c_Tr_put 1 = .ok (.getfield 9, 3) := by decide +kernel
theorem d_Tr_put_4 : decode c_Tr_put 4 = .ok (.iload_n 1, 1) := by decide +kernel
theorem d_Tr_put_5 : decode c_Tr_put 5 = .ok (.iload_n 2, 1) := by decide +kernel
theorem d_Tr_put_6 : decode c_Tr_put 6 = .ok (.iastore, 1) := by decide +kernel
theorem d_Tr_put_7 : decode c_Tr_put 7 = .ok (.aload_n 0, 1) := by decide +kernel
theorem d_Tr_put_8 : decode c_Tr_put 8 = .ok (.getfield 13, 3) := by decide +kernel
theorem d_Tr_put_11 : decode c_Tr_put 11 = .ok (.iload_n 1, 1) := by decide +kernel
theorem d_Tr_put_12 : decode c_Tr_put 12 = .ok (.iload_n 3, 1) := by decide +kernel
theorem d_Tr_put_13 : decode c_Tr_put 13 = .ok (.iastore, 1) := by decide +kernel
theorem d_Tr_put_14 : decode c_Tr_put 14 = .ok (.aload_n 0, 1) := by decide +kernel
theorem d_Tr_put_15 : decode c_Tr_put 15 = .ok (.getfield 16, 3) := by decide +kernel
theorem d_Tr_put_18 : decode c_Tr_put 18 = .ok (.iload_n 1, 1) := by decide +kernel
theorem d_Tr_put_19 : decode c_Tr_put 19 = .ok (.iload 4, 2) := by decide +kernel
theorem d_Tr_put_21 : decode c_Tr_put 21 = .ok (.iastore, 1) := by decide +kernel
theorem d_Tr_put_22 : decode c_Tr_put 22 = .ok (.aload_n 0, 1) := by decide +kernel
theorem d_Tr_put_23 : decode c_Tr_put 23 = .ok (.getfield 19, 3) := by decide +kernel
theorem d_Tr_put_26 : decode c_Tr_put 26 = .ok (.iload_n 1, 1) := by decide +kernel
theorem d_Tr_put_27 : decode c_Tr_put 27 = .ok (.iload 5, 2) := by decide +kernel
theorem d_Tr_put_29 : decode c_Tr_put 29 = .ok (.iastore, 1) := by decide +kernel
theorem d_Tr_put_30 : decode c_Tr_put 30 = .ok (.return_, 1) := by decide +kernel
theorem d_Tr_makeRoom_0 : decode c_Tr_makeRoom 0 = .ok (.aload_n 0, 1) := by decide +kernel
theorem d_Tr_makeRoom_1 : decode c_Tr_makeRoom 1 = .ok (.getfield 22, 3) := by decide +kernel
theorem d_Tr_makeRoom_4 : decode c_Tr_makeRoom 4 = .ok (.aload_n 0, 1) := by decide +kernel
theorem d_Tr_makeRoom_5 : decode c_Tr_makeRoom 5 = .ok (.getfield 9, 3) := by decide +kernel
theorem d_Tr_makeRoom_8 : decode c_Tr_makeRoom 8 = .ok (.arraylength, 1) := by decide +kernel
theorem d_Tr_makeRoom_9 : decode c_Tr_makeRoom 9 = .ok (.if_icmp .ne 58, 3) := by decide +kernel
theorem d_Tr_makeRoom_12 : decode c_Tr_makeRoom 12 = .ok (.iconst 2, 1) := by decide +kernel
theorem d_Tr_makeRoom_13 : decode c_Tr_makeRoom 13 = .ok (.aload_n 0, 1) := by decide +kernel
theorem d_Tr_makeRoom_14 : decode c_Tr_makeRoom 14 = .ok (.getfield 22, 3) := by decide +kernel
theorem d_Tr_makeRoom_17 : decode c_Tr_makeRoom 17 = .ok (.imul, 1) := by decide +kernel
theorem d_Tr_makeRoom_18 : decode c_Tr_makeRoom 18 = .ok (.istore_n 1, 1) := by decide +kernel
theorem d_Tr_makeRoom_19 : decode c_Tr_makeRoom 19 = .ok (.aload_n 0, 1) := by decide +kernel
theorem d_Tr_makeRoom_20 : decode c_Tr_makeRoom 20 = .ok (.aload_n 0, 1) := by decide +kernel
theorem d_Tr_makeRoom_21 : decode c_Tr_makeRoom 21 = .ok (.getfield 9, 3) := by decide +kernel
theorem d_Tr_makeRoom_24 : decode c_Tr_makeRoom 24 = .ok (.iload_n 1, 1) := by decide +kernel
theorem d_Tr_makeRoom_25 : decode c_Tr_makeRoom 25 = .ok (.invokestatic 43, 3) := by decide +kernel
theorem d_Tr_makeRoom_28 : decode c_Tr_makeRoom 28 = .ok (.putfield 9, 3) := by decide +kernel
theorem d_Tr_makeRoom_31 : decode c_Tr_makeRoom 31 = .ok (.aload_n 0, 1) := by decide +kernel
theorem d_Tr_makeRoom_32 : decode c_Tr_makeRoom 32 = .ok (.aload_n 0, 1) := by decide +kernel
theorem d_Tr_makeRoom_33 : decode c_Tr_makeRoom 33 = .ok (.getfield 13, 3) := by decide +kernel
theorem d_Tr_makeRoom_36 : decode c_Tr_makeRoom 36 = .ok (.iload_n 1, 1) := by decide +kernel
theorem d_Tr_makeRoom_37 : decode c_Tr_makeRoom 37 = .ok (.invokestatic 43, 3) := by decide +kernel
theorem d_Tr_makeRoom_40 : decode c_Tr_makeRoom 40 = .ok (.putfield 13, 3) := by decide +kernel
theorem d_Tr_makeRoom_43 : decode c_Tr_makeRoom 43 = .ok (.aload_n 0, 1) := by decide +kernel
theorem d_Tr_makeRoom_44 : decode c_Tr_makeRoom 44 = .ok (.aload_n 0, 1) := by decide +kernel
theorem d_Tr_makeRoom_45 : decode c_Tr_makeRoom 45 = .ok (.getfield 16, 3) := by decide +kernel
theorem d_Tr_makeRoom_48 : decode c_Tr_makeRoom 48 = .ok (.iload_n 1, 1) := by decide +kernel
theorem d_Tr_makeRoom_49 : decode c_Tr_makeRoom 49 = .ok (.invokestatic 43, 3) := by decide +kernel
theorem d_Tr_makeRoom_52 : decode c_Tr_makeRoom 52 = .ok (.putfield 16, 3) := by decide +kernel
theorem d_Tr_makeRoom_55 : decode c_Tr_makeRoom 55 = .ok (.aload_n 0, 1) := by decide +kernel
theorem d_Tr_makeRoom_56 : decode c_Tr_makeRoom 56 = .ok (.aload_n 0, 1) := by decide +kernel
theorem d_Tr_makeRoom_57 : decode c_Tr_makeRoom 57 = .ok (.getfield 19, 3) := by decide +kernel
theorem d_Tr_makeRoom_60 : decode c_Tr_makeRoom 60 = .ok (.iload_n 1, 1) := by decide +kernel
theorem d_Tr_makeRoom_61 : decode c_Tr_makeRoom 61 = .ok (.invokestatic 43, 3) := by decide +kernel
theorem d_Tr_makeRoom_64 : decode c_Tr_makeRoom 64 = .ok (.putfield 19, 3) := by decide +kernel
theorem d_Tr_makeRoom_67 : decode c_Tr_makeRoom 67 = .ok (.return_, 1) := by decide +kernel
theorem d_Tr_behind_0 : decode c_Tr_behind 0 = .ok (.aload_n 0, 1) := by decide +kernel
theorem d_Tr_behind_1 : decode c_Tr_behind 1 = .ok (.iload_n 1, 1) := by decide +kernel
theorem d_Tr_behind_2 : decode c_Tr_behind 2 = .ok (.invokevirtual 26, 3) := by decide +kernel
theorem d_Tr_behind_5 : decode c_Tr_behind 5 = .ok (.ifCond .eq 18, 3) := by decide +kernel
theorem d_Tr_behind_8 : decode c_Tr_behind 8 = .ok (.iload_n 1, 1) := by decide +kernel
theorem d_Tr_behind_9 : decode c_Tr_behind 9 = .ok (.iconst 1, 1) := by decide +kernel
theorem d_Tr_behind_10 : decode c_Tr_behind 10 = .ok (.aload_n 0, 1) := by decide +kernel
theorem d_Tr_behind_11 : decode c_Tr_behind 11 = .ok (.getfield 19, 3) := by decide +kernel
theorem d_Tr_behind_14 : decode c_Tr_behind 14 = .ok (.iload_n 1, 1) := by decide +kernel
theorem d_Tr_behind_15 : decode c_Tr_behind 15 = .ok (.iaload, 1) := by decide +kernel
theorem d_Tr_behind_16 : decode c_Tr_behind 16 = .ok (.invokestatic 49, 3) := by decide +kernel
theorem d_Tr_behind_19 : decode c_Tr_behind 19 = .ok (.iadd, 1) := by decide +kernel
theorem d_Tr_behind_20 : decode c_Tr_behind 20 = .ok (.goto 7, 3) := by decide +kernel
theorem d_Tr_behind_23 : decode c_Tr_behind 23 = .ok (.aload_n 0, 1) := by decide +kernel
theorem d_Tr_behind_24 : decode c_Tr_behind 24 = .ok (.getfield 22, 3) := by decide +kernel
theorem d_Tr_behind_27 : decode c_Tr_behind 27 = .ok (.ireturn, 1) := by decide +kernel
theorem d_Tr_children_0 : decode c_Tr_children 0 = .ok (.aload_n 0, 1) := by decide +kernel
theorem d_Tr_children_1 : decode c_Tr_children 1 = .ok (.iload_n 1, 1) := by decide +kernel
theorem d_Tr_children_2 : decode c_Tr_children 2 = .ok (.invokevirtual 55, 3) := by decide +kernel
theorem d_Tr_children_5 : decode c_Tr_children 5 = .ok (.istore_n 2, 1) := by decide +kernel
theorem d_Tr_children_6 : decode c_Tr_children 6 = .ok (.iload_n 1, 1) := by decide +kernel
theorem d_Tr_children_7 : decode c_Tr_children 7 = .ok (.iconst 1, 1) := by decide +kernel
theorem d_Tr_children_8 : decode c_Tr_children 8 = .ok (.iadd, 1) := by decide +kernel
theorem d_Tr_children_9 : decode c_Tr_children 9 = .ok (.istore_n 3, 1) := by decide +kernel
theorem d_Tr_children_10 : decode c_Tr_children 10 = .ok (.iconst 0, 1) := by decide +kernel
theorem d_Tr_children_11 : decode c_Tr_children 11 = .ok (.istore 4, 2) := by decide +kernel
theorem d_Tr_children_13 : decode c_Tr_children 13 = .ok (.iconst 0, 1) := by decide +kernel
theorem d_Tr_children_14 : decode c_Tr_children 14 = .ok (.istore 5, 2) := by decide +kernel
theorem d_Tr_children_16 : decode c_Tr_children 16 = .ok (.iload 5, 2) := by decide +kernel
theorem d_Tr_children_18 : decode c_Tr_children 18 = .ok (.aload_n 0, 1) := by decide +kernel
theorem d_Tr_children_19 : decode c_Tr_children 19 = .ok (.getfield 22, 3) := by decide +kernel
theorem d_Tr_children_22 : decode c_Tr_children 22 = .ok (.if_icmp .ge 23, 3) := by decide +kernel
theorem d_Tr_children_25 : decode c_Tr_children 25 = .ok (.iload_n 3, 1) := by decide +kernel
theorem d_Tr_children_26 : decode c_Tr_children 26 = .ok (.iload_n 2, 1) := by decide +kernel
theorem d_Tr_children_27 : decode c_Tr_children 27 = .ok (.if_icmp .ge 18, 3) := by decide +kernel
theorem d_Tr_children_30 : decode c_Tr_children 30 = .ok (.aload_n 0, 1) := by decide +kernel
theorem d_Tr_children_31 : decode c_Tr_children 31 = .ok (.iload_n 3, 1) := by decide +kernel
theorem d_Tr_children_32 : decode c_Tr_children 32 = .ok (.invokevirtual 55, 3) := by decide +kernel
theorem d_Tr_children_35 : decode c_Tr_children 35 = .ok (.istore_n 3, 1) := by decide +kernel
theorem d_Tr_children_36 : decode c_Tr_children 36 = .ok (.iinc 4 1, 3) := by decide +kernel
theorem d_Tr_children_39 : decode c_Tr_children 39 = .ok (.iinc 5 1, 3) := by decide +kernel
theorem d_Tr_children_42 : decode c_Tr_children 42 = .ok (.goto (-26), 3) := by decide +kernel
theorem d_Tr_children_45 : decode c_Tr_children 45 = .ok (.iload 4, 2) := by decide +kernel
theorem d_Tr_children_47 : decode c_Tr_children 47 = .ok (.ireturn, 1) := by decide +kernel
theorem d_Tr_part_0 : decode c_Tr_part 0 = .ok (.aload_n 0, 1) := by decide +kernel
theorem d_Tr_part_1 : decode c_Tr_part 1 = .ok (.iload_n 1, 1) := by decide +kernel
theorem d_Tr_part_2 : decode c_Tr_part 2 = .ok (.invokevirtual 26, 3) := by decide +kernel
theorem d_Tr_part_5 : decode c_Tr_part 5 = .ok (.ifCond .eq 7, 3) := by decide +kernel
theorem d_Tr_part_8 : decode c_Tr_part 8 = .ok (.iload_n 2, 1) := by decide +kernel
theorem d_Tr_part_9 : decode c_Tr_part 9 = .ok (.ifCond .ge 5, 3) := by decide +kernel
theorem d_Tr_part_12 : decode c_Tr_part 12 = .ok (.iconst (-1), 1) := by decide +kernel
theorem d_Tr_part_13 : decode c_Tr_part 13 = .ok (.ireturn, 1) := by decide +kernel
theorem d_Tr_part_14 : decode c_Tr_part 14 = .ok (.aload_n 0, 1) := by decide +kernel
theorem d_Tr_part_15 : decode c_Tr_part 15 = .ok (.iload_n 1, 1) := by decide +kernel
theorem d_Tr_part_16 : decode c_Tr_part 16 = .ok (.invokevirtual 55, 3) := by decide +kernel
theorem d_Tr_part_19 : decode c_Tr_part 19 = .ok (.istore_n 3, 1) := by decide +kernel
theorem d_Tr_part_20 : decode c_Tr_part 20 = .ok (.iload_n 1, 1) := by decide +kernel
theorem d_Tr_part_21 : decode c_Tr_part 21 = .ok (.iconst 1, 1) := by decide +kernel
theorem d_Tr_part_22 : decode c_Tr_part 22 = .ok (.iadd, 1) := by decide +kernel
theorem d_Tr_part_23 : decode c_Tr_part 23 = .ok (.istore 4, 2) := by decide +kernel
theorem d_Tr_part_25 : decode c_Tr_part 25 = .ok (.iconst 0, 1) := by decide +kernel
theorem d_Tr_part_26 : decode c_Tr_part 26 = .ok (.istore 5, 2) := by decide +kernel
theorem d_Tr_part_28 : decode c_Tr_part 28 = .ok (.iload 5, 2) := by decide +kernel
theorem d_Tr_part_30 : decode c_Tr_part 30 = .ok (.iload_n 2, 1) := by decide +kernel
theorem d_Tr_part_31 : decode c_Tr_part 31 = .ok (.if_icmp .ge 23, 3) := by decide +kernel
theorem d_Tr_part_34 : decode c_Tr_part 34 = .ok (.iload 4, 2) := by decide +kernel
theorem d_Tr_part_36 : decode c_Tr_part 36 = .ok (.iload_n 3, 1) := by decide +kernel
theorem d_Tr_part_37 : decode c_Tr_part 37 = .ok (.if_icmp .ge 17, 3) := by decide +kernel
theorem d_Tr_part_40 : decode c_Tr_part 40 = .ok (.aload_n 0, 1) := by decide +kernel
theorem d_Tr_part_41 : decode c_Tr_part 41 = .ok (.iload 4, 2) := by decide +kernel
theorem d_Tr_part_43 : decode c_Tr_part 43 = .ok (.invokevirtual 55, 3) := by decide +kernel
theorem d_Tr_part_46 : decode c_Tr_part 46 = .ok (.istore 4, 2) := by decide +kernel
theorem d_Tr_part_48 : decode c_Tr_part 48 = .ok (.iinc 5 1, 3) := by decide +kernel
theorem d_Tr_part_51 : decode c_Tr_part 51 = .ok (.goto (-23), 3) := by decide +kernel
theorem d_Tr_part_54 : decode c_Tr_part 54 = .ok (.iload 4, 2) := by decide +kernel
theorem d_Tr_part_56 : decode c_Tr_part 56 = .ok (.iload_n 3, 1) := by decide +kernel
theorem d_Tr_part_57 : decode c_Tr_part 57 = .ok (.if_icmp .ge 8, 3) := by decide +kernel
theorem d_Tr_part_60 : decode c_Tr_part 60 = .ok (.iload 4, 2) := by decide +kernel
theorem d_Tr_part_62 : decode c_Tr_part 62 = .ok (.goto 4, 3) := by decide +kernel
theorem d_Tr_part_65 : decode c_Tr_part 65 = .ok (.iconst (-1), 1) := by decide +kernel
theorem d_Tr_part_66 : decode c_Tr_part 66 = .ok (.ireturn, 1) := by decide +kernel
theorem d_Lw_token_0 : decode c_Lw_token 0 = .ok (.aload 5, 2) := by decide +kernel
theorem d_Lw_token_2 : decode c_Lw_token 2 = .ok (.iconst 0, 1) := by decide +kernel
theorem d_Lw_token_3 : decode c_Lw_token 3 = .ok (.aload_n 0, 1) := by decide +kernel
theorem d_Lw_token_4 : decode c_Lw_token 4 = .ok (.iload_n 1, 1) := by decide +kernel
theorem d_Lw_token_5 : decode c_Lw_token 5 = .ok (.iload_n 2, 1) := by decide +kernel
theorem d_Lw_token_6 : decode c_Lw_token 6 = .ok (.iload_n 3, 1) := by decide +kernel
theorem d_Lw_token_7 : decode c_Lw_token 7 = .ok (.iload 4, 2) := by decide +kernel
theorem d_Lw_token_9 : decode c_Lw_token 9 = .ok (.invokevirtual 7, 3) := by decide +kernel
theorem d_Lw_token_12 : decode c_Lw_token 12 = .ok (.i2l, 1) := by decide +kernel
theorem d_Lw_token_13 : decode c_Lw_token 13 = .ok (.lastore, 1) := by decide +kernel
theorem d_Lw_token_14 : decode c_Lw_token 14 = .ok (.goto 11, 3) := by decide +kernel
theorem d_Lw_token_17 : decode c_Lw_token 17 = .ok (.astore 6, 2) := by decide +kernel
theorem d_Lw_token_19 : decode c_Lw_token 19 = .ok (.iconst 1, 1) := by decide +kernel
theorem d_Lw_token_20 : decode c_Lw_token 20 = .ok (.ireturn, 1) := by decide +kernel
theorem d_Lw_token_21 : decode c_Lw_token 21 = .ok (.astore 6, 2) := by decide +kernel
theorem d_Lw_token_23 : decode c_Lw_token 23 = .ok (.iconst 2, 1) := by decide +kernel
theorem d_Lw_token_24 : decode c_Lw_token 24 = .ok (.ireturn, 1) := by decide +kernel
theorem d_Lw_token_25 : decode c_Lw_token 25 = .ok (.iconst 0, 1) := by decide +kernel
theorem d_Lw_token_26 : decode c_Lw_token 26 = .ok (.ireturn, 1) := by decide +kernel
theorem d_Lw_read_0 : decode c_Lw_read 0 = .ok (.aload_n 1, 1) := by decide +kernel
theorem d_Lw_read_1 : decode c_Lw_read 1 = .ok (.iconst 0, 1) := by decide +kernel
theorem d_Lw_read_2 : decode c_Lw_read 2 = .ok (.aload_n 0, 1) := by decide +kernel
theorem d_Lw_read_3 : decode c_Lw_read 3 = .ok (.invokevirtual 17, 3) := by decide +kernel
theorem d_Lw_read_6 : decode c_Lw_read 6 = .ok (.i2l, 1) := by decide +kernel
theorem d_Lw_read_7 : decode c_Lw_read 7 = .ok (.lastore, 1) := by decide +kernel
theorem d_Lw_read_8 : decode c_Lw_read 8 = .ok (.goto 6, 3) := by decide +kernel
theorem d_Lw_read_11 : decode c_Lw_read 11 = .ok (.astore_n 2, 1) := by decide +kernel
theorem d_Lw_read_12 : decode c_Lw_read 12 = .ok (.iconst 1, 1) := by decide +kernel
theorem d_Lw_read_13 : decode c_Lw_read 13 = .ok (.ireturn, 1) := by decide +kernel
theorem d_Lw_read_14 : decode c_Lw_read 14 = .ok (.iconst 0, 1) := by decide +kernel
theorem d_Lw_read_15 : decode c_Lw_read 15 = .ok (.ireturn, 1) := by decide +kernel
theorem d_Lw_node_0 : decode c_Lw_node 0 = .ok (.aload_n 3, 1) := by decide +kernel
theorem d_Lw_node_1 : decode c_Lw_node 1 = .ok (.iconst 0, 1) := by decide +kernel
theorem d_Lw_node_2 : decode c_Lw_node 2 = .ok (.aload_n 0, 1) := by decide +kernel
theorem d_Lw_node_3 : decode c_Lw_node 3 = .ok (.iload_n 1, 1) := by decide +kernel
theorem d_Lw_node_4 : decode c_Lw_node 4 = .ok (.iload_n 2, 1) := by decide +kernel
theorem d_Lw_node_5 : decode c_Lw_node 5 = .ok (.invokevirtual 21, 3) := by decide +kernel
theorem d_Lw_node_8 : decode c_Lw_node 8 = .ok (.i2l, 1) := by decide +kernel
theorem d_Lw_node_9 : decode c_Lw_node 9 = .ok (.lastore, 1) := by decide +kernel
theorem d_Lw_node_10 : decode c_Lw_node 10 = .ok (.goto 11, 3) := by decide +kernel
theorem d_Lw_node_13 : decode c_Lw_node 13 = .ok (.astore 4, 2) := by decide +kernel
theorem d_Lw_node_15 : decode c_Lw_node 15 = .ok (.iconst 1, 1) := by decide +kernel
theorem d_Lw_node_16 : decode c_Lw_node 16 = .ok (.ireturn, 1) := by decide +kernel
theorem d_Lw_node_17 : decode c_Lw_node 17 = .ok (.astore 4, 2) := by decide +kernel
theorem d_Lw_node_19 : decode c_Lw_node 19 = .ok (.iconst 2, 1) := by decide +kernel
theorem d_Lw_node_20 : decode c_Lw_node 20 = .ok (.ireturn, 1) := by decide +kernel
theorem d_Lw_node_21 : decode c_Lw_node 21 = .ok (.iconst 0, 1) := by decide +kernel
theorem d_Lw_node_22 : decode c_Lw_node 22 = .ok (.ireturn, 1) := by decide +kernel
theorem d_Lw_child_0 : decode c_Lw_child 0 = .ok (.aload_n 3, 1) := by decide +kernel
theorem d_Lw_child_1 : decode c_Lw_child 1 = .ok (.iconst 0, 1) := by decide +kernel
theorem d_Lw_child_2 : decode c_Lw_child 2 = .ok (.aload_n 0, 1) := by decide +kernel
theorem d_Lw_child_3 : decode c_Lw_child 3 = .ok (.iload_n 1, 1) := by decide +kernel
theorem d_Lw_child_4 : decode c_Lw_child 4 = .ok (.iload_n 2, 1) := by decide +kernel
theorem d_Lw_child_5 : decode c_Lw_child 5 = .ok (.invokevirtual 27, 3) := by decide +kernel
theorem d_Lw_child_8 : decode c_Lw_child 8 = .ok (.i2l, 1) := by decide +kernel
theorem d_Lw_child_9 : decode c_Lw_child 9 = .ok (.lastore, 1) := by decide +kernel
theorem d_Lw_child_10 : decode c_Lw_child 10 = .ok (.goto 7, 3) := by decide +kernel
theorem d_Lw_child_13 : decode c_Lw_child 13 = .ok (.astore 4, 2) := by decide +kernel
theorem d_Lw_child_15 : decode c_Lw_child 15 = .ok (.iconst 1, 1) := by decide +kernel
theorem d_Lw_child_16 : decode c_Lw_child 16 = .ok (.ireturn, 1) := by decide +kernel
theorem d_Lw_child_17 : decode c_Lw_child 17 = .ok (.iconst 0, 1) := by decide +kernel
theorem d_Lw_child_18 : decode c_Lw_child 18 = .ok (.ireturn, 1) := by decide +kernel
theorem d_Lw_law_0 : decode c_Lw_law 0 = .ok (.new 8, 3) := by decide +kernel
theorem d_Lw_law_3 : decode c_Lw_law 3 = .ok (.dup, 1) := by decide +kernel
theorem d_Lw_law_4 : decode c_Lw_law 4 = .ok (.invokespecial 30, 3) := by decide +kernel
theorem d_Lw_law_7 : decode c_Lw_law 7 = .ok (.astore_n 1, 1) := by decide +kernel
theorem d_Lw_law_8 : decode c_Lw_law 8 = .ok (.new 31, 3) := by decide +kernel
theorem d_Lw_law_11 : decode c_Lw_law 11 = .ok (.dup, 1) := by decide +kernel
theorem d_Lw_law_12 : decode c_Lw_law 12 = .ok (.invokespecial 33, 3) := by decide +kernel
theorem d_Lw_law_15 : decode c_Lw_law 15 = .ok (.astore_n 2, 1) := by decide +kernel
theorem d_Lw_law_16 : decode c_Lw_law 16 = .ok (.iconst 1, 1) := by decide +kernel
theorem d_Lw_law_17 : decode c_Lw_law 17 = .ok (.newarray .long, 2) := by decide +kernel
theorem d_Lw_law_19 : decode c_Lw_law 19 = .ok (.astore_n 3, 1) := by decide +kernel
theorem d_Lw_law_20 : decode c_Lw_law 20 = .ok (.iconst 0, 1) := by decide +kernel
theorem d_Lw_law_21 : decode c_Lw_law 21 = .ok (.istore 4, 2) := by decide +kernel
theorem d_Lw_law_23 : decode c_Lw_law 23 = .ok (.iload 4, 2) := by decide +kernel
theorem d_Lw_law_25 : decode c_Lw_law 25 = .ok (.aload_n 0, 1) := by decide +kernel
theorem d_Lw_law_26 : decode c_Lw_law 26 = .ok (.arraylength, 1) := by decide +kernel
theorem d_Lw_law_27 : decode c_Lw_law 27 = .ok (.iconst 5, 1) := by decide +kernel
theorem d_Lw_law_28 : decode c_Lw_law 28 = .ok (.isub, 1) := by decide +kernel
theorem d_Lw_law_29 : decode c_Lw_law 29 = .ok (.if_icmp .gt 350, 3) := by decide +kernel
theorem d_Lw_law_32 : decode c_Lw_law 32 = .ok (.aload_n 0, 1) := by decide +kernel
theorem d_Lw_law_33 : decode c_Lw_law 33 = .ok (.iload 4, 2) := by decide +kernel
theorem d_Lw_law_35 : decode c_Lw_law 35 = .ok (.iaload, 1) := by decide +kernel
theorem d_Lw_law_36 : decode c_Lw_law 36 = .ok (.bipush 7, 2) := by decide +kernel
theorem d_Lw_law_38 : decode c_Lw_law 38 = .ok (.iand, 1) := by decide +kernel
theorem d_Lw_law_39 : decode c_Lw_law 39 = .ok (.tableswitch 334 0 4 #[33, 141, 185, 198, 266], 33) := by decide +kernel
theorem d_Lw_law_72 : decode c_Lw_law 72 = .ok (.aload_n 1, 1) := by decide +kernel
theorem d_Lw_law_73 : decode c_Lw_law 73 = .ok (.aload_n 0, 1) := by decide +kernel
theorem d_Lw_law_74 : decode c_Lw_law 74 = .ok (.iload 4, 2) := by decide +kernel
theorem d_Lw_law_76 : decode c_Lw_law 76 = .ok (.iconst 1, 1) := by decide +kernel
theorem d_Lw_law_77 : decode c_Lw_law 77 = .ok (.iadd, 1) := by decide +kernel
theorem d_Lw_law_78 : decode c_Lw_law 78 = .ok (.iaload, 1) := by decide +kernel
theorem d_Lw_law_79 : decode c_Lw_law 79 = .ok (.aload_n 0, 1) := by decide +kernel
theorem d_Lw_law_80 : decode c_Lw_law 80 = .ok (.iload 4, 2) := by decide +kernel
theorem d_Lw_law_82 : decode c_Lw_law 82 = .ok (.iconst 2, 1) := by decide +kernel
theorem d_Lw_law_83 : decode c_Lw_law 83 = .ok (.iadd, 1) := by decide +kernel
theorem d_Lw_law_84 : decode c_Lw_law 84 = .ok (.iaload, 1) := by decide +kernel
theorem d_Lw_law_85 : decode c_Lw_law 85 = .ok (.aload_n 0, 1) := by decide +kernel
theorem d_Lw_law_86 : decode c_Lw_law 86 = .ok (.iload 4, 2) := by decide +kernel
theorem d_Lw_law_88 : decode c_Lw_law 88 = .ok (.iconst 3, 1) := by decide +kernel
theorem d_Lw_law_89 : decode c_Lw_law 89 = .ok (.iadd, 1) := by decide +kernel
theorem d_Lw_law_90 : decode c_Lw_law 90 = .ok (.iaload, 1) := by decide +kernel
theorem d_Lw_law_91 : decode c_Lw_law 91 = .ok (.aload_n 0, 1) := by decide +kernel
theorem d_Lw_law_92 : decode c_Lw_law 92 = .ok (.iload 4, 2) := by decide +kernel
theorem d_Lw_law_94 : decode c_Lw_law 94 = .ok (.iconst 4, 1) := by decide +kernel
theorem d_Lw_law_95 : decode c_Lw_law 95 = .ok (.iadd, 1) := by decide +kernel
theorem d_Lw_law_96 : decode c_Lw_law 96 = .ok (.iaload, 1) := by decide +kernel
theorem d_Lw_law_97 : decode c_Lw_law 97 = .ok (.ifCond .eq 7, 3) := by decide +kernel
theorem d_Lw_law_100 : decode c_Lw_law 100 = .ok (.iconst 1, 1) := by decide +kernel
theorem d_Lw_law_101 : decode c_Lw_law 101 = .ok (.goto 4, 3) := by decide +kernel
theorem d_Lw_law_104 : decode c_Lw_law 104 = .ok (.iconst 0, 1) := by decide +kernel
theorem d_Lw_law_105 : decode c_Lw_law 105 = .ok (.aload_n 3, 1) := by decide +kernel
theorem d_Lw_law_106 : decode c_Lw_law 106 = .ok (.invokestatic 34, 3) := by decide +kernel
theorem d_Lw_law_109 : decode c_Lw_law 109 = .ok (.istore 5, 2) := by decide +kernel
theorem d_Lw_law_111 : decode c_Lw_law 111 = .ok (.aload_n 2, 1) := by decide +kernel
theorem d_Lw_law_112 : decode c_Lw_law 112 = .ok (.aload_n 0, 1) := by decide +kernel
theorem d_Lw_law_113 : decode c_Lw_law 113 = .ok (.iload 4, 2) := by decide +kernel
theorem d_Lw_law_115 : decode c_Lw_law 115 = .ok (.iconst 1, 1) := by decide +kernel
theorem d_Lw_law_116 : decode c_Lw_law 116 = .ok (.iadd, 1) := by decide +kernel
theorem d_Lw_law_117 : decode c_Lw_law 117 = .ok (.iaload, 1) := by decide +kernel
theorem d_Lw_law_118 : decode c_Lw_law 118 = .ok (.aload_n 0, 1) := by decide +kernel
theorem d_Lw_law_119 : decode c_Lw_law 119 = .ok (.iload 4, 2) := by decide +kernel
theorem d_Lw_law_121 : decode c_Lw_law 121 = .ok (.iconst 2, 1) := by decide +kernel
theorem d_Lw_law_122 : decode c_Lw_law 122 = .ok (.iadd, 1) := by decide +kernel
theorem d_Lw_law_123 : decode c_Lw_law 123 = .ok (.iaload, 1) := by decide +kernel
theorem d_Lw_law_124 : decode c_Lw_law 124 = .ok (.aload_n 0, 1) := by decide +kernel
theorem d_Lw_law_125 : decode c_Lw_law 125 = .ok (.iload 4, 2) := by decide +kernel
theorem d_Lw_law_127 : decode c_Lw_law 127 = .ok (.iconst 3, 1) := by decide +kernel
theorem d_Lw_law_128 : decode c_Lw_law 128 = .ok (.iadd, 1) := by decide +kernel
theorem d_Lw_law_129 : decode c_Lw_law 129 = .ok (.iaload, 1) := by decide +kernel
theorem d_Lw_law_130 : decode c_Lw_law 130 = .ok (.aload_n 0, 1) := by decide +kernel
theorem d_Lw_law_131 : decode c_Lw_law 131 = .ok (.iload 4, 2) := by decide +kernel
theorem d_Lw_law_133 : decode c_Lw_law 133 = .ok (.iconst 4, 1) := by decide +kernel
theorem d_Lw_law_134 : decode c_Lw_law 134 = .ok (.iadd, 1) := by decide +kernel
theorem d_Lw_law_135 : decode c_Lw_law 135 = .ok (.iaload, 1) := by decide +kernel
theorem d_Lw_law_136 : decode c_Lw_law 136 = .ok (.ifCond .eq 7, 3) := by decide +kernel
theorem d_Lw_law_139 : decode c_Lw_law 139 = .ok (.iconst 1, 1) := by decide +kernel
theorem d_Lw_law_140 : decode c_Lw_law 140 = .ok (.goto 4, 3) := by decide +kernel
theorem d_Lw_law_143 : decode c_Lw_law 143 = .ok (.iconst 0, 1) := by decide +kernel
theorem d_Lw_law_144 : decode c_Lw_law 144 = .ok (.invokevirtual 39, 3) := by decide +kernel
theorem d_Lw_law_147 : decode c_Lw_law 147 = .ok (.istore 6, 2) := by decide +kernel
theorem d_Lw_law_149 : decode c_Lw_law 149 = .ok (.aload_n 2, 1) := by decide +kernel
theorem d_Lw_law_150 : decode c_Lw_law 150 = .ok (.invokevirtual 40, 3) := by decide +kernel
theorem d_Lw_law_153 : decode c_Lw_law 153 = .ok (.iload 5, 2) := by decide +kernel
theorem d_Lw_law_155 : decode c_Lw_law 155 = .ok (.if_icmp .eq 5, 3) := by decide +kernel
theorem d_Lw_law_158 : decode c_Lw_law 158 = .ok (.iconst 0, 1) := by decide +kernel
theorem d_Lw_law_159 : decode c_Lw_law 159 = .ok (.ireturn, 1) := by decide +kernel
theorem d_Lw_law_160 : decode c_Lw_law 160 = .ok (.iload 5, 2) := by decide +kernel
theorem d_Lw_law_162 : decode c_Lw_law 162 = .ok (.ifCond .ne 15, 3) := by decide +kernel
theorem d_Lw_law_165 : decode c_Lw_law 165 = .ok (.aload_n 3, 1) := by decide +kernel
theorem d_Lw_law_166 : decode c_Lw_law 166 = .ok (.iconst 0, 1) := by decide +kernel
theorem d_Lw_law_167 : decode c_Lw_law 167 = .ok (.laload, 1) := by decide +kernel
theorem d_Lw_law_168 : decode c_Lw_law 168 = .ok (.iload 6, 2) := by decide +kernel
theorem d_Lw_law_170 : decode c_Lw_law 170 = .ok (.i2l, 1) := by decide +kernel
theorem d_Lw_law_171 : decode c_Lw_law 171 = .ok (.lcmp, 1) := by decide +kernel
theorem d_Lw_law_172 : decode c_Lw_law 172 = .ok (.ifCond .eq 5, 3) := by decide +kernel
theorem d_Lw_law_175 : decode c_Lw_law 175 = .ok (.iconst 0, 1) := by decide +kernel
theorem d_Lw_law_176 : decode c_Lw_law 176 = .ok (.ireturn, 1) := by decide +kernel
theorem d_Lw_law_177 : decode c_Lw_law 177 = .ok (.goto 196, 3) := by decide +kernel
theorem d_Lw_law_180 : decode c_Lw_law 180 = .ok (.aload_n 1, 1) := by decide +kernel
theorem d_Lw_law_181 : decode c_Lw_law 181 = .ok (.aload_n 3, 1) := by decide +kernel
theorem d_Lw_law_182 : decode c_Lw_law 182 = .ok (.invokestatic 43, 3) := by decide +kernel
theorem d_Lw_law_185 : decode c_Lw_law 185 = .ok (.istore 5, 2) := by decide +kernel
theorem d_Lw_law_187 : decode c_Lw_law 187 = .ok (.aload_n 2, 1) := by decide +kernel
theorem d_Lw_law_188 : decode c_Lw_law 188 = .ok (.invokevirtual 46, 3) := by decide +kernel
theorem d_Lw_law_191 : decode c_Lw_law 191 = .ok (.istore 6, 2) := by decide +kernel
theorem d_Lw_law_193 : decode c_Lw_law 193 = .ok (.aload_n 2, 1) := by decide +kernel
theorem d_Lw_law_194 : decode c_Lw_law 194 = .ok (.invokevirtual 40, 3) := by decide +kernel
theorem d_Lw_law_197 : decode c_Lw_law 197 = .ok (.iload 5, 2) := by decide +kernel
theorem d_Lw_law_199 : decode c_Lw_law 199 = .ok (.if_icmp .eq 5, 3) := by decide +kernel
theorem d_Lw_law_202 : decode c_Lw_law 202 = .ok (.iconst 0, 1) := by decide +kernel
theorem d_Lw_law_203 : decode c_Lw_law 203 = .ok (.ireturn, 1) := by decide +kernel
theorem d_Lw_law_204 : decode c_Lw_law 204 = .ok (.iload 5, 2) := by decide +kernel
theorem d_Lw_law_206 : decode c_Lw_law 206 = .ok (.ifCond .ne 15, 3) := by decide +kernel
theorem d_Lw_law_209 : decode c_Lw_law 209 = .ok (.aload_n 3, 1) := by decide +kernel
theorem d_Lw_law_210 : decode c_Lw_law 210 = .ok (.iconst 0, 1) := by decide +kernel
theorem d_Lw_law_211 : decode c_Lw_law 211 = .ok (.laload, 1) := by decide +kernel
theorem d_Lw_law_212 : decode c_Lw_law 212 = .ok (.iload 6, 2) := by decide +kernel
theorem d_Lw_law_214 : decode c_Lw_law 214 = .ok (.i2l, 1) := by decide +kernel
theorem d_Lw_law_215 : decode c_Lw_law 215 = .ok (.lcmp, 1) := by decide +kernel
theorem d_Lw_law_216 : decode c_Lw_law 216 = .ok (.ifCond .eq 5, 3) := by decide +kernel
theorem d_Lw_law_219 : decode c_Lw_law 219 = .ok (.iconst 0, 1) := by decide +kernel
theorem d_Lw_law_220 : decode c_Lw_law 220 = .ok (.ireturn, 1) := by decide +kernel
theorem d_Lw_law_221 : decode c_Lw_law 221 = .ok (.goto 152, 3) := by decide +kernel
theorem d_Lw_law_224 : decode c_Lw_law 224 = .ok (.aload_n 1, 1) := by decide +kernel
theorem d_Lw_law_225 : decode c_Lw_law 225 = .ok (.invokevirtual 47, 3) := by decide +kernel
theorem d_Lw_law_228 : decode c_Lw_law 228 = .ok (.aload_n 2, 1) := by decide +kernel
theorem d_Lw_law_229 : decode c_Lw_law 229 = .ok (.invokevirtual 50, 3) := by decide +kernel
theorem d_Lw_law_232 : decode c_Lw_law 232 = .ok (.if_icmp .eq 141, 3) := by decide +kernel
theorem d_Lw_law_235 : decode c_Lw_law 235 = .ok (.iconst 0, 1) := by decide +kernel
theorem d_Lw_law_236 : decode c_Lw_law 236 = .ok (.ireturn, 1) := by decide +kernel
theorem d_Lw_law_237 : decode c_Lw_law 237 = .ok (.aload_n 1, 1) := by decide +kernel
theorem d_Lw_law_238 : decode c_Lw_law 238 = .ok (.aload_n 0, 1) := by decide +kernel
theorem d_Lw_law_239 : decode c_Lw_law 239 = .ok (.iload 4, 2) := by decide +kernel
theorem d_Lw_law_241 : decode c_Lw_law 241 = .ok (.iconst 1, 1) := by decide +kernel
theorem d_Lw_law_242 : decode c_Lw_law 242 = .ok (.iadd, 1) := by decide +kernel
theorem d_Lw_law_243 : decode c_Lw_law 243 = .ok (.iaload, 1) := by decide +kernel
theorem d_Lw_law_244 : decode c_Lw_law 244 = .ok (.aload_n 0, 1) := by decide +kernel
theorem d_Lw_law_245 : decode c_Lw_law 245 = .ok (.iload 4, 2) := by decide +kernel
theorem d_Lw_law_247 : decode c_Lw_law 247 = .ok (.iconst 2, 1) := by decide +kernel
theorem d_Lw_law_248 : decode c_Lw_law 248 = .ok (.iadd, 1) := by decide +kernel
theorem d_Lw_law_249 : decode c_Lw_law 249 = .ok (.iaload, 1) := by decide +kernel
theorem d_Lw_law_250 : decode c_Lw_law 250 = .ok (.aload_n 3, 1) := by decide +kernel
theorem d_Lw_law_251 : decode c_Lw_law 251 = .ok (.invokestatic 51, 3) := by decide +kernel
theorem d_Lw_law_254 : decode c_Lw_law 254 = .ok (.istore 5, 2) := by decide +kernel
theorem d_Lw_law_256 : decode c_Lw_law 256 = .ok (.aload_n 2, 1) := by decide +kernel
theorem d_Lw_law_257 : decode c_Lw_law 257 = .ok (.aload_n 0, 1) := by decide +kernel
theorem d_Lw_law_258 : decode c_Lw_law 258 = .ok (.iload 4, 2) := by decide +kernel
theorem d_Lw_law_260 : decode c_Lw_law 260 = .ok (.iconst 1, 1) := by decide +kernel
theorem d_Lw_law_261 : decode c_Lw_law 261 = .ok (.iadd, 1) := by decide +kernel
theorem d_Lw_law_262 : decode c_Lw_law 262 = .ok (.iaload, 1) := by decide +kernel
theorem d_Lw_law_263 : decode c_Lw_law 263 = .ok (.aload_n 0, 1) := by decide +kernel
theorem d_Lw_law_264 : decode c_Lw_law 264 = .ok (.iload 4, 2) := by decide +kernel
theorem d_Lw_law_266 : decode c_Lw_law 266 = .ok (.iconst 2, 1) := by decide +kernel
theorem d_Lw_law_267 : decode c_Lw_law 267 = .ok (.iadd, 1) := by decide +kernel
theorem d_Lw_law_268 : decode c_Lw_law 268 = .ok (.iaload, 1) := by decide +kernel
theorem d_Lw_law_269 : decode c_Lw_law 269 = .ok (.invokevirtual 54, 3) := by decide +kernel
theorem d_Lw_law_272 : decode c_Lw_law 272 = .ok (.istore 6, 2) := by decide +kernel
theorem d_Lw_law_274 : decode c_Lw_law 274 = .ok (.aload_n 2, 1) := by decide +kernel
theorem d_Lw_law_275 : decode c_Lw_law 275 = .ok (.invokevirtual 40, 3) := by decide +kernel
theorem d_Lw_law_278 : decode c_Lw_law 278 = .ok (.iload 5, 2) := by decide +kernel
theorem d_Lw_law_280 : decode c_Lw_law 280 = .ok (.if_icmp .eq 5, 3) := by decide +kernel
theorem d_Lw_law_283 : decode c_Lw_law 283 = .ok (.iconst 0, 1) := by decide +kernel
theorem d_Lw_law_284 : decode c_Lw_law 284 = .ok (.ireturn, 1) := by decide +kernel
theorem d_Lw_law_285 : decode c_Lw_law 285 = .ok (.iload 5, 2) := by decide +kernel
theorem d_Lw_law_287 : decode c_Lw_law 287 = .ok (.ifCond .ne 15, 3) := by decide +kernel
theorem d_Lw_law_290 : decode c_Lw_law 290 = .ok (.aload_n 3, 1) := by decide +kernel
theorem d_Lw_law_291 : decode c_Lw_law 291 = .ok (.iconst 0, 1) := by decide +kernel
theorem d_Lw_law_292 : decode c_Lw_law 292 = .ok (.laload, 1) := by decide +kernel
theorem d_Lw_law_293 : decode c_Lw_law 293 = .ok (.iload 6, 2) := by decide +kernel
theorem d_Lw_law_295 : decode c_Lw_law 295 = .ok (.i2l, 1) := by decide +kernel
theorem d_Lw_law_296 : decode c_Lw_law 296 = .ok (.lcmp, 1) := by decide +kernel
theorem d_Lw_law_297 : decode c_Lw_law 297 = .ok (.ifCond .eq 5, 3) := by decide +kernel
theorem d_Lw_law_300 : decode c_Lw_law 300 = .ok (.iconst 0, 1) := by decide +kernel
theorem d_Lw_law_301 : decode c_Lw_law 301 = .ok (.ireturn, 1) := by decide +kernel
theorem d_Lw_law_302 : decode c_Lw_law 302 = .ok (.goto 71, 3) := by decide +kernel
theorem d_Lw_law_305 : decode c_Lw_law 305 = .ok (.aload_n 1, 1) := by decide +kernel
theorem d_Lw_law_306 : decode c_Lw_law 306 = .ok (.aload_n 0, 1) := by decide +kernel
theorem d_Lw_law_307 : decode c_Lw_law 307 = .ok (.iload 4, 2) := by decide +kernel
theorem d_Lw_law_309 : decode c_Lw_law 309 = .ok (.iconst 1, 1) := by decide +kernel
theorem d_Lw_law_310 : decode c_Lw_law 310 = .ok (.iadd, 1) := by decide +kernel
theorem d_Lw_law_311 : decode c_Lw_law 311 = .ok (.iaload, 1) := by decide +kernel
theorem d_Lw_law_312 : decode c_Lw_law 312 = .ok (.aload_n 0, 1) := by decide +kernel
theorem d_Lw_law_313 : decode c_Lw_law 313 = .ok (.iload 4, 2) := by decide +kernel
theorem d_Lw_law_315 : decode c_Lw_law 315 = .ok (.iconst 2, 1) := by decide +kernel
theorem d_Lw_law_316 : decode c_Lw_law 316 = .ok (.iadd, 1) := by decide +kernel
theorem d_Lw_law_317 : decode c_Lw_law 317 = .ok (.iaload, 1) := by decide +kernel
theorem d_Lw_law_318 : decode c_Lw_law 318 = .ok (.aload_n 3, 1) := by decide +kernel
theorem d_Lw_law_319 : decode c_Lw_law 319 = .ok (.invokestatic 55, 3) := by decide +kernel
theorem d_Lw_law_322 : decode c_Lw_law 322 = .ok (.istore 5, 2) := by decide +kernel
theorem d_Lw_law_324 : decode c_Lw_law 324 = .ok (.aload_n 2, 1) := by decide +kernel
theorem d_Lw_law_325 : decode c_Lw_law 325 = .ok (.aload_n 0, 1) := by decide +kernel
theorem d_Lw_law_326 : decode c_Lw_law 326 = .ok (.iload 4, 2) := by decide +kernel
theorem d_Lw_law_328 : decode c_Lw_law 328 = .ok (.iconst 1, 1) := by decide +kernel
theorem d_Lw_law_329 : decode c_Lw_law 329 = .ok (.iadd, 1) := by decide +kernel
theorem d_Lw_law_330 : decode c_Lw_law 330 = .ok (.iaload, 1) := by decide +kernel
theorem d_Lw_law_331 : decode c_Lw_law 331 = .ok (.aload_n 0, 1) := by decide +kernel
theorem d_Lw_law_332 : decode c_Lw_law 332 = .ok (.iload 4, 2) := by decide +kernel
theorem d_Lw_law_334 : decode c_Lw_law 334 = .ok (.iconst 2, 1) := by decide +kernel
theorem d_Lw_law_335 : decode c_Lw_law 335 = .ok (.iadd, 1) := by decide +kernel
theorem d_Lw_law_336 : decode c_Lw_law 336 = .ok (.iaload, 1) := by decide +kernel
theorem d_Lw_law_337 : decode c_Lw_law 337 = .ok (.invokevirtual 57, 3) := by decide +kernel
theorem d_Lw_law_340 : decode c_Lw_law 340 = .ok (.istore 6, 2) := by decide +kernel
theorem d_Lw_law_342 : decode c_Lw_law 342 = .ok (.aload_n 2, 1) := by decide +kernel
theorem d_Lw_law_343 : decode c_Lw_law 343 = .ok (.invokevirtual 40, 3) := by decide +kernel
theorem d_Lw_law_346 : decode c_Lw_law 346 = .ok (.iload 5, 2) := by decide +kernel
theorem d_Lw_law_348 : decode c_Lw_law 348 = .ok (.if_icmp .eq 5, 3) := by decide +kernel
theorem d_Lw_law_351 : decode c_Lw_law 351 = .ok (.iconst 0, 1) := by decide +kernel
theorem d_Lw_law_352 : decode c_Lw_law 352 = .ok (.ireturn, 1) := by decide +kernel
theorem d_Lw_law_353 : decode c_Lw_law 353 = .ok (.iload 5, 2) := by decide +kernel
theorem d_Lw_law_355 : decode c_Lw_law 355 = .ok (.ifCond .ne 15, 3) := by decide +kernel
theorem d_Lw_law_358 : decode c_Lw_law 358 = .ok (.aload_n 3, 1) := by decide +kernel
theorem d_Lw_law_359 : decode c_Lw_law 359 = .ok (.iconst 0, 1) := by decide +kernel
theorem d_Lw_law_360 : decode c_Lw_law 360 = .ok (.laload, 1) := by decide +kernel
theorem d_Lw_law_361 : decode c_Lw_law 361 = .ok (.iload 6, 2) := by decide +kernel
theorem d_Lw_law_363 : decode c_Lw_law 363 = .ok (.i2l, 1) := by decide +kernel
theorem d_Lw_law_364 : decode c_Lw_law 364 = .ok (.lcmp, 1) := by decide +kernel
theorem d_Lw_law_365 : decode c_Lw_law 365 = .ok (.ifCond .eq 5, 3) := by decide +kernel
theorem d_Lw_law_368 : decode c_Lw_law 368 = .ok (.iconst 0, 1) := by decide +kernel
theorem d_Lw_law_369 : decode c_Lw_law 369 = .ok (.ireturn, 1) := by decide +kernel
theorem d_Lw_law_370 : decode c_Lw_law 370 = .ok (.goto 3, 3) := by decide +kernel
theorem d_Lw_law_373 : decode c_Lw_law 373 = .ok (.iinc 4 5, 3) := by decide +kernel
theorem d_Lw_law_376 : decode c_Lw_law 376 = .ok (.goto (-353), 3) := by decide +kernel
theorem d_Lw_law_379 : decode c_Lw_law 379 = .ok (.iconst 1, 1) := by decide +kernel
theorem d_Lw_law_380 : decode c_Lw_law 380 = .ok (.ireturn, 1) := by decide +kernel
